import java.math.BigInteger;
import java.util.ArrayList;
import java.util.Comparator;
import java.util.List;
import java.util.Map;
import java.util.Random;
import java.util.TreeMap;
import java.util.regex.Pattern;

// Random runs of calls, each answer compared with a slow model that was written from the document alone:
// it keeps every entry, goes day by day, copies everything for a forecast and asks a regular expression.
public final class ReferenceTest {
    static final int NO_SUCH = -1;
    static final int BAD_VALUE = -2;
    static final int NOT_POSSIBLE = -3;
    static final int LIMIT = -4;
    static final int BAD_TEXT = -5;
    static final int NONE = -6;
    static final int MOST = 100000000;
    static final int FULL = 1000000000;
    static final int CALLS = 512;
    static final int RUNS = 400;

    static final class Client {
        long balance;
        BigInteger count = BigInteger.ZERO;
        int openedOn;

        Client copy() {
            Client c = new Client();
            c.balance = balance;
            c.count = count;
            c.openedOn = openedOn;
            return c;
        }
    }

    record Hold(int client, int amount, int lastDay) { }

    record Bill(int client, int left, int paid) { }

    record Entry(int day, int kind, int client, int second, int amount, int check, boolean reversed, int of) { }

    static final class Book {
        int day;
        int limit = 100000;
        int low = 100;
        int high = 250;
        int threshold = 20;
        long office;
        TreeMap<Integer, Client> clients = new TreeMap<>();
        TreeMap<Integer, Hold> holds = new TreeMap<>();
        TreeMap<Integer, Bill> bills = new TreeMap<>();
        int holdsMade;
        int billsMade;
        List<Entry> trail = new ArrayList<>();

        Book copy() {
            Book b = new Book();
            b.day = day;
            b.limit = limit;
            b.low = low;
            b.high = high;
            b.threshold = threshold;
            b.office = office;
            for (Map.Entry<Integer, Client> e : clients.entrySet()) {
                b.clients.put(e.getKey(), e.getValue().copy());
            }
            b.holds.putAll(holds);
            b.bills.putAll(bills);
            b.holdsMade = holdsMade;
            b.billsMade = billsMade;
            b.trail.addAll(trail);
            return b;
        }

        long held(int client) {
            return holds.values().stream().filter(h -> h.client() == client).mapToLong(Hold::amount).sum();
        }

        long free(int client) {
            return clients.get(client).balance - held(client);
        }

        boolean has(int client) {
            return clients.containsKey(client);
        }

        void enter(int kind, int client, int second, int amount, int of) {
            BigInteger before = BigInteger.valueOf(trail.isEmpty() ? 7 : trail.get(trail.size() - 1).check());
            BigInteger check = before.multiply(BigInteger.valueOf(1009))
                .add(BigInteger.valueOf(day).multiply(BigInteger.valueOf(31)))
                .add(BigInteger.valueOf(kind).multiply(BigInteger.valueOf(17)))
                .add(BigInteger.valueOf(client).multiply(BigInteger.valueOf(101)))
                .add(BigInteger.valueOf(second).multiply(BigInteger.valueOf(103)))
                .add(BigInteger.valueOf(amount))
                .mod(BigInteger.valueOf(1000003));
            trail.add(new Entry(day, kind, client, second, amount, check.intValueExact(), false, of));
        }

        int latestMovement(int client) {
            int latest = clients.get(client).openedOn;
            for (Entry e : trail) {
                if (e.client() == client || e.second() == client) {
                    latest = Math.max(latest, e.day());
                }
            }
            return latest;
        }

        long passDay() {
            long credited = 0;
            for (Client c : clients.values()) {
                BigInteger below = BigInteger.valueOf(Math.min(c.balance, limit));
                BigInteger above = BigInteger.valueOf(Math.max(0, c.balance - limit));
                c.count = c.count.add(below.multiply(BigInteger.valueOf(low)))
                    .add(above.multiply(BigInteger.valueOf(high)));
            }
            day++;
            if (day % 30 == 0) {
                for (Map.Entry<Integer, Client> e : clients.entrySet()) {
                    Client c = e.getValue();
                    BigInteger unit = BigInteger.valueOf(3650000);
                    BigInteger room = BigInteger.valueOf(FULL - c.balance);
                    BigInteger interest = c.count.divide(unit).min(room);
                    if (interest.signum() > 0 && interest.compareTo(BigInteger.valueOf(threshold)) >= 0) {
                        c.balance += interest.longValueExact();
                        c.count = c.count.subtract(unit.multiply(interest));
                        credited += interest.longValueExact();
                        enter(5, e.getKey(), 0, interest.intValueExact(), 0);
                    }
                }
            }
            holds.values().removeIf(h -> day > h.lastDay());
            return credited;
        }

        long sumOfKind(int kind) {
            long sum = 0;
            for (Entry e : trail) {
                if (e.kind() == kind) {
                    sum += e.amount();
                } else if (e.kind() == 6 && e.of() == kind) {
                    sum -= e.amount();
                }
            }
            return sum;
        }

        int receive(int client, int amount) {
            if (!has(client)) return NO_SUCH;
            if (amount < 1 || amount > MOST) return BAD_VALUE;
            Client c = clients.get(client);
            if (c.balance + amount > FULL) return LIMIT;
            c.balance += amount;
            enter(1, client, 0, amount, 0);
            return (int) c.balance;
        }

        int pay(int client, int amount) {
            if (!has(client)) return NO_SUCH;
            if (amount < 1 || amount > MOST) return BAD_VALUE;
            if (free(client) < amount) return NOT_POSSIBLE;
            Client c = clients.get(client);
            c.balance -= amount;
            enter(2, client, 0, amount, 0);
            return (int) c.balance;
        }

        int transfer(int from, int to, int amount) {
            if (!has(from) || !has(to)) return NO_SUCH;
            if (from == to || amount < 1 || amount > MOST) return BAD_VALUE;
            if (free(from) < amount) return NOT_POSSIBLE;
            if (clients.get(to).balance + amount > FULL) return LIMIT;
            clients.get(from).balance -= amount;
            clients.get(to).balance += amount;
            enter(3, from, to, amount, 0);
            return (int) clients.get(from).balance;
        }

        int bill(int client, int amount) {
            if (!has(client)) return NO_SUCH;
            if (amount < 1 || amount > MOST) return BAD_VALUE;
            if (bills.size() == 15) return LIMIT;
            billsMade++;
            bills.put(billsMade, new Bill(client, amount, 0));
            return billsMade;
        }

        int settle(int bill) {
            Bill b = bills.get(bill);
            if (b == null) return NO_SUCH;
            if (free(b.client()) == 0) return NOT_POSSIBLE;
            int taken = (int) Math.min(b.left(), free(b.client()));
            clients.get(b.client()).balance -= taken;
            office += taken;
            bills.put(bill, new Bill(b.client(), b.left() - taken, b.paid() + taken));
            if (b.left() == taken) {
                bills.remove(bill);
            }
            enter(4, b.client(), 0, taken, 0);
            return taken;
        }

        long pass(int days) {
            if (days < 1 || days > 400) return BAD_VALUE;
            if (day + days > 9999) return LIMIT;
            long sum = 0;
            for (int i = 0; i < days; i++) {
                sum += passDay();
            }
            return sum;
        }

        int reverse(int number) {
            if (number < 1 || number > trail.size() || number <= trail.size() - 24) return NO_SUCH;
            Entry e = trail.get(number - 1);
            if (e.kind() >= 4 || e.reversed()) return NOT_POSSIBLE;
            if (!has(e.client()) || e.kind() == 3 && !has(e.second())) return NOT_POSSIBLE;
            Client from = e.kind() == 1 ? clients.get(e.client()) : e.kind() == 3 ? clients.get(e.second()) : null;
            Client to = e.kind() == 1 ? null : clients.get(e.client());
            if (from != null && free(e.kind() == 1 ? e.client() : e.second()) < e.amount()) return NOT_POSSIBLE;
            if (to != null && to.balance + e.amount() > FULL) return LIMIT;
            if (from != null) {
                from.balance -= e.amount();
            }
            if (to != null) {
                to.balance += e.amount();
            }
            trail.set(number - 1,
                new Entry(e.day(), e.kind(), e.client(), e.second(), e.amount(), e.check(), true, 0));
            enter(6, e.client(), e.second(), e.amount(), e.kind());
            return trail.size();
        }

        long of(int client, int what) {
            if (!has(client)) return NO_SUCH;
            Client c = clients.get(client);
            switch (what) {
                case 0: return c.balance;
                case 1: return held(client);
                case 2: return free(client);
                case 3: return c.count.divide(BigInteger.valueOf(3650000)).min(BigInteger.valueOf(FULL)).longValue();
                case 4: return bills.values().stream().filter(b -> b.client() == client).mapToLong(Bill::left).sum();
                case 5: return latestMovement(client);
                case 6: return holds.values().stream().filter(h -> h.client() == client).count();
                case 7: return bills.values().stream().filter(b -> b.client() == client).count();
                default: return BAD_VALUE;
            }
        }

        int holdOf(int hold, int what) {
            Hold h = holds.get(hold);
            if (h == null) return NO_SUCH;
            return what == 0 ? h.client() : what == 1 ? h.amount() : what == 2 ? h.lastDay() : BAD_VALUE;
        }

        int billOf(int bill, int what) {
            Bill b = bills.get(bill);
            if (b == null) return NO_SUCH;
            return what == 0 ? b.client() : what == 1 ? b.left() : what == 2 ? b.paid() : BAD_VALUE;
        }

        int entry(int number, int what) {
            if (number < 1 || number > trail.size() || number <= trail.size() - 24) return NO_SUCH;
            Entry e = trail.get(number - 1);
            int[] values = {e.day(), e.kind(), e.client(), e.second(), e.amount(), e.check(), e.reversed() ? 1 : 0};
            return what < 0 || what > 6 ? BAD_VALUE : values[what];
        }

        long sum(int what) {
            switch (what) {
                case 0: return clients.values().stream().mapToLong(c -> c.balance).sum();
                case 1: return holds.values().stream().mapToLong(Hold::amount).sum();
                case 2: return office;
                case 3: return sumOfKind(5);
                case 4: return sumOfKind(1);
                case 5: return sumOfKind(2);
                default: return BAD_VALUE;
            }
        }

        List<Integer> ranking(int order) {
            List<Integer> all = new ArrayList<>(clients.keySet());
            Comparator<Integer> byNumber = Comparator.naturalOrder();
            Comparator<Integer> first = byNumber;
            if (order == 1) first = Comparator.comparing(c -> -clients.get(c).balance);
            if (order == 2) first = Comparator.comparing(this::free);
            if (order == 3) first = Comparator.comparing(this::latestMovement);
            all.sort(first.thenComparing(byNumber));
            return all;
        }

        int ranked(int order, int rank) {
            if (order < 0 || order > 3) return BAD_VALUE;
            return rank < 0 || rank >= clients.size() ? NO_SUCH : ranking(order).get(rank);
        }

        int payableOn(int client, int amount) {
            if (!has(client)) return NO_SUCH;
            if (amount < 1 || amount > MOST) return BAD_VALUE;
            Book ahead = copy();
            for (int i = 0; i <= 400; i++) {
                if (ahead.free(client) >= amount) return day + i;
                ahead.passDay();
            }
            return NONE;
        }

        long interestIn(int client, int days) {
            if (!has(client)) return NO_SUCH;
            if (days < 1 || days > 400) return BAD_VALUE;
            Book ahead = copy();
            for (int i = 0; i < days; i++) {
                ahead.passDay();
            }
            return ahead.clients.get(client).balance - clients.get(client).balance;
        }

        long digest() {
            List<Long> list = new ArrayList<>();
            list.add((long) day);
            list.add((long) clients.size());
            for (int client : clients.keySet()) {
                list.add((long) client);
                for (int what = 0; what <= 7; what++) {
                    list.add(of(client, what));
                }
            }
            for (int hold : holds.keySet()) {
                list.add((long) hold);
                for (int what = 0; what <= 2; what++) {
                    list.add((long) holdOf(hold, what));
                }
            }
            for (int bill : bills.keySet()) {
                list.add((long) bill);
                for (int what = 0; what <= 2; what++) {
                    list.add((long) billOf(bill, what));
                }
            }
            list.add((long) trail.size());
            for (int e = Math.max(1, trail.size() - 23); e <= trail.size(); e++) {
                for (int what = 0; what <= 6; what++) {
                    list.add((long) entry(e, what));
                }
            }
            for (int order = 1; order <= 3; order++) {
                for (int client : ranking(order)) {
                    list.add((long) client);
                }
            }
            for (int what = 0; what <= 5; what++) {
                list.add(sum(what));
            }
            long hash = 202;
            for (long v : list) {
                hash = 31 * hash + v;
            }
            return hash;
        }
    }

    static final class Model {
        static final String ONE = "([rpb]\\d{1,6}:\\d{1,6}|t\\d{1,6}>\\d{1,6}:\\d{1,6}|[sd]\\d{1,6})";
        static final Pattern LIST = Pattern.compile(ONE + "(;" + ONE + ")*");
        // whatever can be completed at all is completed by one of these
        static final String[] REST = {"", "1", ":1", "1:1", ">1:1", "1>1:1", "d1"};

        Book book = new Book();
        List<Book> states = new ArrayList<>();
        String text = "";

        long save(Book before, long answer) {
            if (answer >= 0) {
                states.add(before);
                if (states.size() > 6) {
                    states.remove(0);
                }
            }
            return answer;
        }

        long setRates(int limit, int low, int high) {
            if (limit < 0 || limit > FULL || low < 0 || low > 2000 || high < 0 || high > 2000) return BAD_VALUE;
            int previous = book.limit;
            book.limit = limit;
            book.low = low;
            book.high = high;
            return previous;
        }

        long setThreshold(int threshold) {
            if (threshold < 0 || threshold > 10000) return BAD_VALUE;
            int previous = book.threshold;
            book.threshold = threshold;
            return previous;
        }

        long open(int client) {
            if (client < 1 || client > 99) return BAD_VALUE;
            if (book.has(client)) return NOT_POSSIBLE;
            if (book.clients.size() == 12) return LIMIT;
            Client c = new Client();
            c.openedOn = book.day;
            book.clients.put(client, c);
            return book.clients.size();
        }

        long close(int client) {
            if (!book.has(client)) return NO_SUCH;
            if (book.clients.get(client).balance != 0 || book.of(client, 7) > 0) return NOT_POSSIBLE;
            book.clients.remove(client);
            return book.clients.size();
        }

        long hold(int client, int amount, int days) {
            if (!book.has(client)) return NO_SUCH;
            if (amount < 1 || amount > MOST || days < 1 || days > 999) return BAD_VALUE;
            if (book.free(client) < amount) return NOT_POSSIBLE;
            if (book.holds.size() == 15) return LIMIT;
            book.holdsMade++;
            book.holds.put(book.holdsMade, new Hold(client, amount, book.day + days));
            return book.holdsMade;
        }

        long release(int hold) {
            Hold h = book.holds.remove(hold);
            return h == null ? NO_SUCH : book.free(h.client());
        }

        long syntaxError() {
            if (LIST.matcher(text).matches()) return NONE;
            for (int i = 0; i < text.length(); i++) {
                boolean begins = false;
                for (String rest : REST) {
                    begins |= LIST.matcher(text.substring(0, i + 1) + rest).matches();
                }
                if (!begins) return i;
            }
            return text.length();
        }

        long carryOut() {
            if (!LIST.matcher(text).matches()) return BAD_TEXT;
            int done = 0;
            for (String order : text.split(";")) {
                String[] words = order.substring(1).split("[:>]");
                int a = Integer.parseInt(words[0]);
                int b = words.length > 1 ? Integer.parseInt(words[1]) : 0;
                int c = words.length > 2 ? Integer.parseInt(words[2]) : 0;
                char letter = order.charAt(0);
                long answer = letter == 'r' ? book.receive(a, b) : letter == 'p' ? book.pay(a, b)
                    : letter == 't' ? book.transfer(a, b, c) : letter == 'b' ? book.bill(a, b)
                    : letter == 's' ? book.settle(a) : book.pass(a);
                if (answer < 0) break;
                done++;
            }
            text = "";
            return done;
        }

        long undo() {
            if (states.isEmpty()) return NOT_POSSIBLE;
            book = states.remove(states.size() - 1);
            return states.size();
        }
    }

    static final class Run {
        final Random random;
        final ClientMoneyBook x = new ClientMoneyBook();
        final Model m = new Model();
        final int style;
        String call = "";
        long got;
        long want;
        String typing = "";

        Run(int seed) {
            random = new Random(seed);
            style = seed % 4;
        }

        int pick(int... values) {
            return values[random.nextInt(values.length)];
        }

        int wild() {
            return pick(Integer.MIN_VALUE, Integer.MAX_VALUE, -1, 0, random.nextInt(), 1000, MOST + 1, FULL + 1);
        }

        int client() {
            if (random.nextInt(25) == 0) {
                return pick(0, 100, wild());
            }
            if (!m.book.clients.isEmpty() && random.nextInt(8) != 0) {
                List<Integer> all = new ArrayList<>(m.book.clients.keySet());
                return all.get(random.nextInt(all.size()));
            }
            return random.nextInt(16) == 0 ? pick(1, 99) : 1 + random.nextInt(15) * 7;
        }

        int amount(int client) {
            if (random.nextInt(25) == 0) {
                return pick(0, MOST + 1, wild());
            }
            if (m.book.has(client) && random.nextInt(4) == 0) {
                return (int) m.book.free(client) + random.nextInt(3) - 1;
            }
            if (m.book.has(client) && random.nextInt(8) == 0) {
                return (int) (FULL - m.book.clients.get(client).balance) + random.nextInt(3) - 1;
            }
            if (style == 0) {
                return 1 + random.nextInt(50);
            }
            if (style == 1) {
                return pick(MOST, MOST - 1, MOST / 2, 1 + random.nextInt(MOST));
            }
            return pick(1, 2, 1000, 1 + random.nextInt(100), 1 + random.nextInt(100000), 1 + random.nextInt(MOST));
        }

        int days() {
            if (random.nextInt(20) == 0) {
                return pick(0, 401, wild());
            }
            return pick(1, 1, 2, 29, 30, 31, 1 + random.nextInt(60), 1 + random.nextInt(60), 1 + random.nextInt(400));
        }

        int numberOf(TreeMap<Integer, ?> rows, int made) {
            if (!rows.isEmpty() && random.nextInt(5) != 0) {
                List<Integer> all = new ArrayList<>(rows.keySet());
                return all.get(random.nextInt(all.size()));
            }
            return random.nextInt(20) == 0 ? wild() : random.nextInt(made + 3);
        }

        int entryNumber() {
            return random.nextInt(20) == 0 ? wild() : m.book.trail.size() + 1 - random.nextInt(28);
        }

        int what(int end) {
            return random.nextInt(15) == 0 ? pick(-1, end, wild()) : random.nextInt(end);
        }

        String number(int value) {
            String digits = String.valueOf(Math.abs((long) value) % 1000000);
            return random.nextInt(5) == 0 ? "000000".substring(digits.length()) + digits : digits;
        }

        String orders() {
            StringBuilder text = new StringBuilder();
            int many = 1 + random.nextInt(6);
            for (int i = 0; i < many; i++) {
                int c = client();
                String order;
                switch (random.nextInt(6)) {
                    case 0: order = "r" + number(c) + ":" + number(amount(c)); break;
                    case 1: order = "p" + number(c) + ":" + number(amount(c)); break;
                    case 2: order = "t" + number(c) + ">" + number(client()) + ":" + number(amount(c)); break;
                    case 3: order = "b" + number(c) + ":" + number(amount(c)); break;
                    case 4: order = "s" + number(numberOf(m.book.bills, m.book.billsMade)); break;
                    default: order = "d" + number(days()); break;
                }
                text.append(i == 0 ? "" : ";").append(order);
            }
            if (random.nextInt(4) == 0) {
                text.setCharAt(random.nextInt(text.length()), ":;>rptbsd0123456789x".charAt(random.nextInt(20)));
            }
            if (random.nextInt(8) == 0) {
                text.setLength(random.nextInt(text.length()) + 1);
            }
            return text.toString();
        }

        void saw(String name, long answer, long due, int... args) {
            StringBuilder s = new StringBuilder(name).append("(");
            for (int i = 0; i < args.length; i++) {
                s.append(i == 0 ? "" : ", ").append(args[i]);
            }
            call = s.append(")").toString();
            got = answer;
            want = due;
        }

        void changing(int k) {
            Book before = m.book.copy();
            int c = client();
            int a = amount(c);
            if (k == 0) {
                int l = pick(0, 1000, 100000, FULL, random.nextInt(FULL), random.nextInt(12) == 0 ? wild() : 5000);
                int lo = pick(0, 100, 365, 2000, random.nextInt(2001), random.nextInt(12) == 0 ? 2001 : 250);
                int hi = pick(0, 250, 730, 2000, random.nextInt(2001), random.nextInt(12) == 0 ? -1 : 250);
                saw("setRates", x.setRates(l, lo, hi), m.save(before, m.setRates(l, lo, hi)), l, lo, hi);
            } else if (k == 1) {
                int t = pick(0, 1, 20, 10000, random.nextInt(100), random.nextInt(6) == 0 ? 10001 : 2, wild());
                saw("setThreshold", x.setThreshold(t), m.save(before, m.setThreshold(t)), t);
            } else if (k <= 4) {
                int n = random.nextInt(4) == 0 ? c : random.nextInt(30) == 0 ? pick(0, 99, 100) : random.nextInt(16) * 7;
                saw("open", x.open(n), m.save(before, m.open(n)), n);
            } else if (k == 5) {
                saw("close", x.close(c), m.save(before, m.close(c)), c);
            } else if (k <= 11) {
                saw("receive", x.receive(c, a), m.save(before, m.book.receive(c, a)), c, a);
            } else if (k <= 15) {
                saw("pay", x.pay(c, a), m.save(before, m.book.pay(c, a)), c, a);
            } else if (k <= 19) {
                int to = random.nextInt(20) == 0 ? c : client();
                saw("transfer", x.transfer(c, to, a), m.save(before, m.book.transfer(c, to, a)), c, to, a);
            } else if (k <= 24) {
                int d = random.nextInt(15) == 0 ? pick(0, 1000, 999, wild()) : 1 + random.nextInt(pick(5, 100, 999));
                int h = m.book.has(c) && random.nextBoolean() ? (int) (m.book.free(c) / (2 + random.nextInt(9))) : a;
                saw("hold", x.hold(c, h, d), m.save(before, m.hold(c, h, d)), c, h, d);
            } else if (k <= 26) {
                int h = numberOf(m.book.holds, m.book.holdsMade);
                saw("release", x.release(h), m.save(before, m.release(h)), h);
            } else if (k <= 29) {
                saw("bill", x.bill(c, a), m.save(before, m.book.bill(c, a)), c, a);
            } else if (k <= 32) {
                int b = numberOf(m.book.bills, m.book.billsMade);
                saw("settle", x.settle(b), m.save(before, m.book.settle(b)), b);
            } else if (k <= 36) {
                int d = days();
                saw("pass", x.pass(d), m.save(before, m.book.pass(d)), d);
            } else if (k <= 40) {
                int e = entryNumber();
                saw("reverse", x.reverse(e), m.save(before, m.book.reverse(e)), e);
            } else {
                saw("undo", x.undo(), m.undo());
            }
        }

        void texts(int k) {
            if (!typing.isEmpty()) {
                int code = typing.charAt(0);
                typing = typing.substring(1);
                long due = m.text.length() == 80 ? LIMIT : m.text.length() + 1;
                m.text = due == LIMIT ? m.text : m.text + (char) code;
                saw("type", x.type(code), due, code);
                if (typing.isEmpty() && got == want) {
                    due = m.syntaxError();
                    saw("syntaxError", x.syntaxError(), due);
                }
            } else if (k == 0) {
                int code = pick(32, 127, 33, 126, wild());
                long due = code < 33 || code > 126 ? BAD_VALUE : m.text.length() == 80 ? LIMIT : m.text.length() + 1;
                m.text = due > 0 ? m.text + (char) code : m.text;
                saw("type", x.type(code), due, code);
            } else if (k <= 2) {
                saw("syntaxError", x.syntaxError(), m.syntaxError());
            } else if (k <= 4) {
                long due = m.text.length();
                m.text = "";
                saw("clearText", x.clearText(), due);
                typing = orders();
            } else if (k <= 6) {
                Book before = m.book.copy();
                saw("carryOut", x.carryOut(), m.save(before, m.carryOut()));
                typing = orders();
            } else {
                typing = (m.text.isEmpty() ? "" : ";") + orders();
                saw("clients", x.clients(), m.book.clients.size());
            }
        }

        void asking(int k) {
            int c = client();
            int a = amount(c);
            int d = days();
            if (k == 0) {
                saw("day", x.day(), m.book.day);
            } else if (k == 1) {
                saw("entries", x.entries(), m.book.trail.size());
            } else if (k <= 3) {
                int order = what(4);
                int rank = random.nextInt(10) == 0 ? wild() : random.nextInt(13);
                saw("ranked", x.ranked(order, rank), m.book.ranked(order, rank), order, rank);
            } else if (k <= 5) {
                int w = what(8);
                saw("of", x.of(c, w), m.book.of(c, w), c, w);
            } else if (k == 6) {
                int h = numberOf(m.book.holds, m.book.holdsMade);
                int w = what(3);
                saw("holdOf", x.holdOf(h, w), m.book.holdOf(h, w), h, w);
            } else if (k == 7) {
                int b = numberOf(m.book.bills, m.book.billsMade);
                int w = what(3);
                saw("billOf", x.billOf(b, w), m.book.billOf(b, w), b, w);
            } else if (k == 8) {
                int e = entryNumber();
                int w = what(7);
                saw("entry", x.entry(e, w), m.book.entry(e, w), e, w);
            } else if (k == 9) {
                int w = what(6);
                saw("sum", x.sum(w), m.book.sum(w), w);
            } else if (k <= 11) {
                int p = m.book.has(c) && random.nextBoolean()
                    ? (int) (m.book.clients.get(c).balance - m.book.held(c) * random.nextInt(5) / 4
                        + m.book.clients.get(c).balance * random.nextInt(200) / 10000) : a;
                saw("payableOn", x.payableOn(c, p), m.book.payableOn(c, p), c, p);
            } else {
                saw("interestIn", x.interestIn(c, d), m.book.interestIn(c, d), c, d);
            }
        }

        boolean go() {
            for (int i = 0; i < CALLS; i++) {
                int k = random.nextInt(100);
                if (k < 60) {
                    changing(random.nextInt(style == 3 ? 42 : 43));
                } else if (k < 80) {
                    texts(random.nextInt(9));
                } else {
                    asking(random.nextInt(14));
                }
                if (got != want) {
                    System.out.println("call " + i + ": " + call + " answered " + got + ", due is " + want);
                    return false;
                }
                if (x.digest() != m.book.digest()) {
                    System.out.println("call " + i + ": after " + call + " the digest is not the one that is due");
                    return false;
                }
            }
            for (int i = 0; i < CALLS; i++) {
                // what these answer is free, but nothing may throw
                changing(random.nextInt(43));
                asking(random.nextInt(14));
            }
            return true;
        }
    }

    public static void main(String[] args) {
        int runs = args.length > 0 ? Integer.parseInt(args[0]) : RUNS;
        for (int seed = 0; seed < runs; seed++) {
            if (!new Run(seed).go()) {
                System.out.println("run " + seed + " is not as due");
                System.exit(1);
            }
        }
        System.out.println(runs + " runs of " + CALLS + " calls are as due");
    }
}
