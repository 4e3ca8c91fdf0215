import java.io.IOException;
import java.lang.reflect.InvocationTargetException;
import java.lang.reflect.Method;
import java.math.BigInteger;
import java.nio.file.Files;
import java.nio.file.Path;
import java.util.ArrayList;
import java.util.HashMap;
import java.util.LinkedHashMap;
import java.util.List;
import java.util.Map;
import java.util.Set;
import java.util.regex.Matcher;
import java.util.regex.Pattern;

// For each sentence of the document a test of its own: the sentence in the document's words, and runs of
// calls on new books with the answers that it asks for. At the end it is looked whether each sentence of
// the document was named; those that name nothing to be tested stand in PLAIN.
//
// A run is a text such as "open(7) = 1 2 * receive(7, 5) pay(7, 11) = NOT_POSSIBLE". A call without an
// answer must not be refused. Where a call is due to be refused, the whole book is looked at with and
// without this call, as it is and after each undo.
public final class BoundaryTest {
    static final int MOST = 100000000;
    static final int FULL = 1000000000;
    static final int CALLS = 512;

    static final Map<String, Long> NAMES = Map.of("NO_SUCH", -1L, "BAD_VALUE", -2L, "NOT_POSSIBLE", -3L, "LIMIT", -4L,
        "BAD_TEXT", -5L, "NONE", -6L, "MOST", (long) MOST, "FULL", (long) FULL,
        "MIN", (long) Integer.MIN_VALUE, "MAX", (long) Integer.MAX_VALUE);

    record Call(String method, Object[] arguments, Long due, String source) { }

    static final Pattern CALL = Pattern.compile("(?:(\\d+) \\* )?((\\w+)\\(([^)]*)\\))(?: = (-?\\w+))?\\s*");
    static final Map<String, Method> METHODS = new HashMap<>();
    static final Map<String, List<Long>> PORTRAITS = new HashMap<>();
    static final Map<String, List<String>> SENTENCES = new LinkedHashMap<>();

    static String section = "";
    static String sentence = "";
    static int checks = 0;
    static int wrong = 0;

    // ---- sentences

    static void section(String title) {
        section = title;
        SENTENCES.put(title, new ArrayList<>());
    }

    static void says(String words, String... runs) {
        sentence = words;
        SENTENCES.get(section).add(words);
        for (String run : runs) {
            run(run);
        }
    }

    static void due(String what, long got, long want) {
        checks++;
        if (got != want) {
            complain(what + " answered " + got + ", due is " + want);
        }
    }

    static void complain(String complaint) {
        wrong++;
        System.out.println(section + " | " + sentence + " | " + complaint);
    }

    // ---- runs

    static long number(String word) {
        return NAMES.containsKey(word) ? NAMES.get(word) : Long.parseLong(word);
    }

    static Call callOf(Matcher m) {
        Long due = m.group(5) == null ? null : Long.valueOf(number(m.group(5)));
        Object[] arguments = {m.group(4)};
        if (!m.group(3).equals("write")) {
            String[] words = m.group(4).isEmpty() ? new String[0] : m.group(4).split(", ");
            arguments = new Object[words.length];
            for (int i = 0; i < words.length; i++) {
                arguments[i] = Math.toIntExact(number(words[i]));
            }
        }
        return new Call(m.group(3), arguments, due, m.group(2));
    }

    static List<Call> calls(String run) {
        List<Call> calls = new ArrayList<>();
        Matcher m = CALL.matcher(run);
        int end = 0;
        while (m.find() && m.start() == end) {
            int times = m.group(1) == null ? 1 : Integer.parseInt(m.group(1));
            for (int i = 0; i < times; i++) {
                calls.add(callOf(m));
            }
            end = m.end();
        }
        if (end != run.length() || used(calls) > CALLS) {
            throw new IllegalArgumentException("not a run, or too many calls: " + run.substring(end));
        }
        return calls;
    }

    static int used(List<Call> calls) {
        int used = 0;
        for (Call call : calls) {
            used += call.method().equals("write") ? ((String) call.arguments()[0]).length() : 1;
        }
        return used;
    }

    // write(..) stands for a type(..) of each of its characters.
    static long answer(ClientMoneyBook x, Call call) {
        if (call.method().equals("write")) {
            long length = 0;
            for (char c : ((String) call.arguments()[0]).toCharArray()) {
                length = x.type(c);
            }
            return length;
        }
        try {
            return ((Number) METHODS.get(call.method()).invoke(x, call.arguments())).longValue();
        } catch (IllegalAccessException | InvocationTargetException e) {
            throw new IllegalStateException(call.source(), e);
        }
    }

    static ClientMoneyBook after(String run) {
        ClientMoneyBook x = new ClientMoneyBook();
        for (Call call : calls(run)) {
            answer(x, call);
        }
        return x;
    }

    // What a call answers at the end of a run, on a book of its own.
    static long ask(String run, String call) {
        return answer(after(run), calls(call).get(0));
    }

    static void run(String run) {
        ClientMoneyBook x = new ClientMoneyBook();
        StringBuilder before = new StringBuilder();
        List<Call> calls = calls(run);
        for (Call call : calls) {
            long got = answer(x, call);
            checks++;
            if (call.due() == null ? got < 0 : got != call.due()) {
                complain(before + ">> " + call.source() + " answered " + got + ", due is "
                    + (call.due() == null ? "no error" : call.due().toString()));
                return;
            }
            if (got >= -5 && got <= -1 && used(calls) <= CALLS / 2) {
                leaves(before.toString(), call.source());
            }
            before.append(call.source()).append(' ');
        }
    }

    static String times(int from, int to, String calls) {
        StringBuilder run = new StringBuilder();
        for (int i = from; i <= to; i++) {
            run.append(calls.replace("#", Integer.toString(i))).append(' ');
        }
        return run.toString();
    }

    // ---- the whole book

    // All that the calls tell about the book, and about each book that undo restores. Many of the looks
    // change the book, so each of them takes one of its own; none of them needs half of its calls.
    static List<Long> portrait(String run) {
        List<Long> known = PORTRAITS.get(run);
        if (known != null) {
            return known;
        }
        List<Long> seen = new ArrayList<>();
        StringBuilder undone = new StringBuilder(run);
        for (int i = 0; i <= 7; i++) {
            String here = undone.toString();
            look(after(here), seen);
            lookAtSettings(after(here), seen);
            lookAtText(after(here), after(here), seen);
            lookAtNumbers(after(here), seen);
            lookAtCounts(after(here), seen);
            seen.add(ask(here, "undo()"));
            undone.append("undo() ");
        }
        PORTRAITS.put(run, seen);
        return seen;
    }

    static void look(ClientMoneyBook x, List<Long> seen) {
        seen.add(x.digest());
        int clients = x.clients();
        for (int rank = 0; rank < clients; rank++) {
            int client = x.ranked(0, rank);
            seen.add((long) x.interestIn(client, 30));
            seen.add((long) x.interestIn(client, 400));
            seen.add((long) x.payableOn(client, Math.min(MOST, x.of(client, 2) + 1)));
        }
    }

    static void lookAtSettings(ClientMoneyBook x, List<Long> seen) {
        seen.add((long) x.setRates(0, 0, 0));
        seen.add((long) x.setThreshold(0));
    }

    static void lookAtText(ClientMoneyBook x, ClientMoneyBook other, List<Long> seen) {
        seen.add((long) x.syntaxError());
        seen.add((long) x.carryOut());
        seen.add(x.digest());
        seen.add((long) other.clearText());
    }

    // Which numbers the next hold and the next bill get, how the check number goes on, and both rates.
    static void lookAtNumbers(ClientMoneyBook x, List<Long> seen) {
        int client = x.open(98) > 0 ? 98 : x.ranked(0, 0);
        seen.add((long) x.receive(client, 1000000));
        for (int i = 1; i <= 20; i++) {
            seen.add((long) x.release(i));
            seen.add((long) x.settle(i));
        }
        seen.add((long) x.hold(client, 1, 1));
        seen.add((long) x.bill(client, 1));
        seen.add(x.pass(29));
        seen.add((long) x.of(client, 3));
        seen.add(x.pass(1));
        seen.add(x.digest());
    }

    static void lookAtCounts(ClientMoneyBook x, List<Long> seen) {
        x.setThreshold(0);
        seen.add(x.pass(400));
        seen.add(x.digest());
    }

    static void same(String what, List<Long> got, List<Long> want) {
        checks++;
        if (!got.equals(want)) {
            complain(what);
        }
    }

    // The call changes nothing, neither the book nor what undo restores.
    static void leaves(String run, String call) {
        same(run + ">> " + call + " changed the book", portrait(run + call + " "), portrait(run));
    }

    // The call is not refused and saves one state, and undo restores all of it but the text.
    static void undoes(String run, String call) {
        restored(run, call + " undo() ");
    }

    // No call is refused, and after the last one all but the text is as it was before the first one.
    static void restored(String run, String calls) {
        run(run + calls);
        same(run + ">> " + calls + "is not the book of before",
            portrait(run + calls + "clearText() "), portrait(run + "clearText() "));
    }

    // ---- what stands before the promises

    static final String FILL_1 = "10 * receive(1, MOST) ";
    static final String TO_THE_END = "24 * pass(400) pass(399) ";
    // one hundredth of a percent of the balance is one day's interest
    static final String ONE_RATE = "open(1) setRates(FULL, 365, 0) setThreshold(0) ";
    // money on both sides of the limit, a hold, bills, each kind of entry, six saved states and a text
    static final String RICH = "open(1) open(2) open(40) setRates(50000, 365, 730) setThreshold(3) receive(1, 90000) "
        + "receive(2, 70000) pass(17) hold(1, 500, 20) hold(2, 700, 3) bill(1, 400) bill(2, 90000) settle(1) "
        + "transfer(1, 2, 3000) pay(1, 100) reverse(5) pass(20) bill(2, 30) write(r1:5;d3) ";
    // as many clients, holds, bills and kept entries as there can be, the next entry takes the place of 23
    static final String CROWDED = "setRates(FULL, 365, 0) setThreshold(0) "
        + times(1, 12, "open(#) receive(#, 1000000)")
        + times(1, 15, "hold(3, #, 99) bill(12, #)") + "34 * receive(12, 5) 3 * setThreshold(0) 3 * undo() ";
    static final String DAYS_80 = "d1;".repeat(26) + "d1";

    static void whatItIs() {
        section("What it is");
        says("An object is used for at most 512 calls after it has been made",
            "open(1) = 1 510 * receive(1, 1) of(1, 0) = 510",
            "open(1) = 1 509 * receive(1, 1) entry(509, 4) = 1 entry(485, 4) = NO_SUCH",
            "open(1) receive(1, 9) " + times(1, 255, "hold(1, 9, 9) = # release(#) = 9"),
            "open(1) receive(1, 254) " + times(1, 254, "bill(1, 1) = # settle(#) = 1") + "sum(2) = 254 entries() = 255",
            ("write(" + DAYS_80 + ") = 80 carryOut() = 27 ").repeat(6) + "day() = 162",
            "505 * setThreshold(5) 6 * undo() undo() = NOT_POSSIBLE",
            times(1, 256, "open(7) = 1 undo() = 0"));
    }

    static void clientsAndDays() {
        section("Terms");
        says("All divisions round down (no negative number is ever divided).",
            "open(1) setRates(FULL, 1, 0) receive(1, 3649999) pass(1) of(1, 3) = 0",
            "open(1) setRates(FULL, 1, 0) receive(1, 3650000) pass(1) of(1, 3) = 1",
            "open(1) setRates(FULL, 1, 0) receive(1, 7299999) pass(1) of(1, 3) = 1",
            "open(1) setRates(FULL, 1, 0) receive(1, 3649999) interestIn(1, 30) = 29 payableOn(1, 3650028) = 30 "
                + "payableOn(1, 3650029) = 60 pass(30) = 29 of(1, 0) = 3650028");
        says("There are at most 12 clients",
            times(1, 12, "open(#) = #") + "open(13) = LIMIT open(99) = LIMIT clients() = 12 close(5) = 11 "
                + "open(13) = 12 open(5) = LIMIT");
        says("each has a number from 1 to 99 that the user chooses",
            "open(0) = BAD_VALUE", "open(100) = BAD_VALUE", "open(-1) = BAD_VALUE");
        for (int client = 1; client <= 99; client++) {
            run("open(#) = 1 ranked(0, 0) = # of(#, 0) = 0".replace("#", Integer.toString(client)));
        }
        says("A client has a balance, which is 0 at first, never negative, and at most 1000000000.",
            "open(7) of(7, 0) = 0",
            "open(1) receive(1, 5) pay(1, 6) = NOT_POSSIBLE pay(1, 5) = 0 pay(1, 1) = NOT_POSSIBLE of(1, 0) = 0",
            "open(1) open(2) receive(1, 5) transfer(1, 2, 6) = NOT_POSSIBLE transfer(1, 2, 5) = 0 of(1, 0) = 0 "
                + "transfer(1, 2, 1) = NOT_POSSIBLE",
            "open(1) receive(1, 5) bill(1, 9) settle(1) = 5 of(1, 0) = 0 settle(1) = NOT_POSSIBLE of(1, 0) = 0",
            "open(1) receive(1, 5) pay(1, 1) reverse(1) = NOT_POSSIBLE receive(1, 1) reverse(1) = 4 of(1, 0) = 0",
            "open(1) 9 * receive(1, MOST) receive(1, 99999999) receive(1, 2) = LIMIT receive(1, 1) = FULL "
                + "receive(1, 1) = LIMIT of(1, 0) = FULL",
            "open(1) open(2) " + FILL_1 + "receive(2, 5) pay(1, 4) transfer(2, 1, 5) = LIMIT transfer(2, 1, 4) = 1 "
                + "of(1, 0) = FULL transfer(2, 1, 1) = LIMIT",
            "open(1) receive(1, 10) pay(1, 10) " + FILL_1 + "pay(1, 9) reverse(2) = LIMIT pay(1, 1) reverse(2) = 15 "
                + "of(1, 0) = FULL",
            "open(1) setRates(FULL, 2000, 0) " + FILL_1 + "pay(1, 21) pass(30) = 21 of(1, 0) = FULL pass(400) = 0 "
                + "of(1, 0) = FULL");
        says("The current day is 0 in a new book", "day() = 0");
        says("it is at most 9999 (forecasts may go beyond)",
            "24 * pass(400) pass(398) pass(2) = LIMIT pass(1) = 0 day() = 9999 pass(1) = LIMIT day() = 9999",
            TO_THE_END + "open(1) setThreshold(0) receive(1, 100000) payableOn(1, 100001) = 10020 "
                + "payableOn(1, 100057) = 10020 payableOn(1, 100058) = 10050 interestIn(1, 20) = 0 "
                + "interestIn(1, 21) = 57 day() = 9999",
            TO_THE_END + "open(1) receive(1, 100000) hold(1, 100000, 399) payableOn(1, 99000) = 10399",
            TO_THE_END + "open(1) receive(1, 100000) hold(1, 100000, 400) payableOn(1, 99000) = NONE",
            TO_THE_END + "open(1) receive(1, 9) hold(1, 9, 999) holdOf(1, 2) = 10998");
    }

    static void holdsAndBills() {
        String two = "open(1) open(2) receive(1, 100) receive(2, 100) ";
        says("There are at most 15 holds",
            two + "8 * hold(1, 1, 5) 7 * hold(2, 1, 5) hold(1, 1, 5) = LIMIT hold(2, 1, 5) = LIMIT release(3) = 93 "
                + "hold(2, 1, 5) = 16 hold(1, 1, 5) = LIMIT",
            two + "15 * hold(1, 1, 5) pass(5) hold(1, 1, 5) = LIMIT pass(1) hold(1, 1, 5) = 16");
        says("they are numbered from 1 in the order in which they were made, and a number is not used again",
            two + "hold(2, 5, 9) = 1 hold(1, 5, 2) = 2 hold(2, 5, 1) = 3 holdOf(0, 0) = NO_SUCH holdOf(1, 0) = 2 "
                + "holdOf(2, 0) = 1 holdOf(3, 0) = 2",
            two + "hold(1, 5, 9) = 1 hold(1, 6, 9) = 2 release(2) = 95 hold(1, 7, 9) = 3 release(3) = 95 "
                + "release(1) = 100 hold(2, 8, 9) = 4 holdOf(1, 0) = NO_SUCH holdOf(2, 0) = NO_SUCH "
                + "holdOf(3, 0) = NO_SUCH",
            two + "hold(1, 5, 1) = 1 pass(2) hold(1, 6, 1) = 2 holdOf(1, 0) = NO_SUCH");
        says("A hold has a client, an amount and a last day; it ends when it is released, or as soon as the current "
            + "day is greater than its last day.",
            two + "pass(3) hold(2, 40, 2) = 1 holdOf(1, 0) = 2 holdOf(1, 1) = 40 holdOf(1, 2) = 5",
            two + "hold(1, 40, 2) release(1) = 100 holdOf(1, 0) = NO_SUCH of(1, 1) = 0 pay(1, 100) = 0",
            two + "pass(3) hold(1, 40, 2) pass(2) day() = 5 holdOf(1, 1) = 40 of(1, 2) = 60 pass(1) "
                + "holdOf(1, 1) = NO_SUCH of(1, 2) = 100",
            two + "setRates(0, 0, 0) hold(1, 30, 400) hold(2, 40, 399) pass(400) of(1, 1) = 30 of(2, 1) = 0",
            two + "setRates(0, 0, 0) hold(1, 1, 3) hold(1, 2, 2) hold(1, 4, 3) hold(1, 8, 4) pass(3) of(1, 1) = 13 "
                + "pass(1) of(1, 1) = 8 pass(1) of(1, 1) = 0");
        says("The held sum of a client is the sum of its holds.",
            two + "of(1, 1) = 0 hold(1, 30, 9) of(1, 1) = 30 hold(2, 50, 9) hold(1, 70, 9) of(1, 1) = 100 "
                + "of(2, 1) = 50 release(1) = 30 of(1, 1) = 70");
        says("The free sum of a client is its balance minus its held sum, which is never negative.",
            two + "of(1, 2) = 100 hold(1, 99, 9) of(1, 2) = 1 hold(1, 2, 9) = NOT_POSSIBLE hold(1, 1, 9) = 2 "
                + "of(1, 2) = 0 of(1, 0) = 100 of(2, 2) = 100",
            two + "bill(1, 9) hold(1, 100, 9) pay(1, 1) = NOT_POSSIBLE transfer(1, 2, 1) = NOT_POSSIBLE "
                + "hold(1, 1, 9) = NOT_POSSIBLE settle(1) = NOT_POSSIBLE reverse(1) = NOT_POSSIBLE of(1, 2) = 0");
        says("There are at most 15 open bills",
            two + "8 * bill(1, 50) 7 * bill(2, 9) bill(1, 1) = LIMIT bill(2, 1) = LIMIT settle(1) = 50 bill(2, 1) = 16 "
                + "bill(1, 1) = LIMIT",
            two + "15 * bill(1, 101) settle(1) = 100 bill(1, 1) = LIMIT receive(1, 1) settle(1) = 1 bill(1, 1) = 16");
        says("they are numbered from 1 in the same way",
            two + "bill(2, 5) = 1 bill(1, 6) = 2 bill(2, 7) = 3 billOf(0, 0) = NO_SUCH billOf(1, 0) = 2 "
                + "billOf(2, 0) = 1 billOf(3, 0) = 2",
            two + "hold(1, 1, 9) = 1 bill(1, 5) = 1 bill(1, 6) = 2 settle(2) = 6 bill(1, 7) = 3 settle(3) = 7 "
                + "settle(1) = 5 bill(1, 8) = 4 billOf(1, 0) = NO_SUCH billOf(2, 0) = NO_SUCH billOf(3, 0) = NO_SUCH "
                + "hold(1, 1, 9) = 2");
        says("A bill has a client and an amount that is still to be paid.",
            two + "bill(2, 5) billOf(1, 0) = 2 billOf(1, 1) = 5 of(2, 0) = 100");
        says("To settle a bill, the lesser of this amount and the free sum of the client is taken from the client's "
            + "balance and added to the office account; the bill is closed when nothing is left to be paid.",
            two + "bill(1, 99) settle(1) = 99 of(1, 0) = 1 sum(2) = 99 billOf(1, 1) = NO_SUCH of(2, 0) = 100",
            two + "bill(1, 100) settle(1) = 100 of(1, 0) = 0 sum(2) = 100 billOf(1, 1) = NO_SUCH",
            two + "bill(1, 101) settle(1) = 100 of(1, 0) = 0 sum(2) = 100 billOf(1, 1) = 1 billOf(1, 2) = 100",
            two + "bill(1, 90) hold(1, 30, 9) settle(1) = 70 of(1, 0) = 30 billOf(1, 1) = 20 release(1) = 30 "
                + "settle(1) = 20 sum(2) = 90 of(1, 0) = 10 billOf(1, 1) = NO_SUCH");
    }

    static void interest() {
        String waiting = "open(1) setThreshold(10000) ";
        says("There are a limit, 0 to 1000000000, initially 100000, a low rate and a high rate, 0 to 2000 each, "
            + "initially 100 and 250, in hundredths of a percent a year.",
            "setRates(FULL, 2000, 2000) = 100000 setRates(0, 0, 0) = FULL setRates(5, 0, 0) = 0",
            "setRates(-1, 0, 0) = BAD_VALUE", "setRates(1000000001, 0, 0) = BAD_VALUE",
            "setRates(0, -1, 0) = BAD_VALUE",
            "setRates(0, 2001, 0) = BAD_VALUE", "setRates(0, 0, -1) = BAD_VALUE", "setRates(0, 0, 2001) = BAD_VALUE",
            // 1 percent of 100000 is 1000, 2.5 percent of it are 2500
            waiting + "receive(1, 100000) pass(364) of(1, 3) = 997 pass(1) of(1, 3) = 1000",
            waiting + "receive(1, 200000) pass(364) of(1, 3) = 3490 pass(1) of(1, 3) = 3500",
            waiting + "receive(1, 100000) setRates(0, 0, 2000) pass(73) of(1, 3) = 4000",
            waiting + "receive(1, 100000) setRates(FULL, 2000, 0) pass(73) of(1, 3) = 4000");
        says("Each client has a count of interest, which is 0 at first.",
            "open(1) of(1, 3) = 0 setRates(FULL, 1, 0) receive(1, 3649999) pass(1) of(1, 3) = 0",
            "open(2) setRates(FULL, 1, 0) receive(2, 3649999) pass(1) open(1) receive(1, 3649999) pass(1) of(1, 3) = 0 "
                + "of(2, 3) = 1");
        says("At the end of each day the count of each client grows by: low rate * (the lesser of balance and limit) + "
            + "high rate * (what the balance has above the limit).",
            waiting + "setRates(2000, 1825, 0) receive(1, 1999) pass(1) of(1, 3) = 0",
            waiting + "setRates(2000, 1825, 0) receive(1, 2000) pass(1) of(1, 3) = 1",
            waiting + "setRates(2000, 1825, 0) receive(1, 4001) pass(1) of(1, 3) = 1",
            waiting + "setRates(1000, 0, 1825) receive(1, 1000) pass(400) of(1, 3) = 0",
            waiting + "setRates(1000, 0, 1825) receive(1, 2999) pass(1) of(1, 3) = 0",
            waiting + "setRates(1000, 0, 1825) receive(1, 3000) pass(1) of(1, 3) = 1",
            waiting + "setRates(0, 0, 1825) receive(1, 2000) pass(1) of(1, 3) = 1",
            waiting + "setRates(FULL, 1825, 0) receive(1, 2000) pass(1) of(1, 3) = 1",
            // 365 * 1000 + 730 * 5000 a day
            waiting + "setRates(1000, 365, 730) receive(1, 6000) pass(9) of(1, 3) = 9 pass(1) of(1, 3) = 11",
            // only what is there when the day ends counts, held or not
            waiting + "setRates(FULL, 365, 0) receive(1, 10000) pay(1, 10000) pass(1) of(1, 3) = 0 receive(1, 10000) "
                + "of(1, 3) = 0 pass(1) of(1, 3) = 1 hold(1, 10000, 1) pass(1) of(1, 3) = 2 pass(1) pay(1, 10000) "
                + "pass(5) of(1, 3) = 3",
            waiting + "setRates(FULL, 365, 0) receive(1, 10000) setRates(FULL, 0, 0) pass(1) of(1, 3) = 0",
            waiting + "open(2) setRates(FULL, 365, 0) receive(1, 10000) receive(2, 30000) pass(3) of(1, 3) = 3 "
                + "of(2, 3) = 9");
        says("Then the current day becomes 1 more.",
            "pass(1) day() = 1 pass(1) day() = 2",
            ONE_RATE + "receive(1, 10000) pass(30) day() = 30 entry(2, 0) = 30");
    }

    static void credits() {
        says("If the new day is a multiple of 30, interest is credited to each client, by ascending numbers:",
            "open(9) open(2) open(5) setRates(FULL, 365, 0) receive(9, 10000) receive(2, 20000) receive(5, 30000) "
                + "pass(29) = 0 entries() = 3 pass(1) = 180 entries() = 6 entry(4, 2) = 2 entry(5, 2) = 5 "
                + "entry(6, 2) = 9 pass(29) = 0 pass(1) = 180 entries() = 9",
            ONE_RATE + "receive(1, 10000) pass(59) = 30 day() = 59 pass(1) = 30",
            ONE_RATE + "receive(1, 10000) pass(60) = 60 pass(1) = 0",
            ONE_RATE + "pass(30) receive(1, 10000) pass(29) = 0 pass(1) = 30",
            ONE_RATE + "receive(1, 10000) pass(389) = 365 entries() = 13",
            ONE_RATE + "receive(1, 10000) pass(390) = 397 entries() = 14",
            ONE_RATE + "receive(1, 10000) pass(400) = 397 entries() = 14");
        says("count / 3650000 is the interest, at most so much that the balance stays at most 1000000000",
            "open(1) setRates(FULL, 2000, 0) " + FILL_1 + "pay(1, 25) pass(30) = 25 of(1, 0) = FULL "
                + "of(1, 3) = 16438330",
            // the interest is 2900, and there is room for 2901, 2900 and 2899
            ONE_RATE + "receive(1, 1000000) pass(29) 9 * receive(1, MOST) receive(1, 98997099) setRates(FULL, 0, 0) "
                + "pass(1) = 2900 of(1, 0) = 999999999",
            ONE_RATE + "receive(1, 1000000) pass(29) 9 * receive(1, MOST) receive(1, 98997100) setRates(FULL, 0, 0) "
                + "pass(1) = 2900 of(1, 0) = FULL",
            ONE_RATE + "receive(1, 1000000) pass(29) 9 * receive(1, MOST) receive(1, 98997101) setRates(FULL, 0, 0) "
                + "pass(1) = 2899 of(1, 0) = FULL of(1, 3) = 1");
        says("if it, lessened in this way, is at least the threshold (0 to 10000, initially 20), it is added to the "
            + "balance, and the count becomes count - 3650000 * interest; otherwise the count stays",
            "setThreshold(0) = 20 setThreshold(10000) = 0 setThreshold(-1) = BAD_VALUE setThreshold(10001) = BAD_VALUE",
            "open(1) setRates(FULL, 365, 0) receive(1, 6666) pass(30) = 0 of(1, 0) = 6666 of(1, 3) = 19",
            "open(1) setRates(FULL, 365, 0) receive(1, 6667) pass(30) = 20 of(1, 0) = 6687 of(1, 3) = 0",
            ONE_RATE + "setThreshold(30) receive(1, 10000) pass(30) = 30 of(1, 3) = 0",
            ONE_RATE + "setThreshold(31) receive(1, 10000) pass(30) = 0 of(1, 3) = 30 pass(30) = 60 of(1, 0) = 10060",
            ONE_RATE + "setThreshold(1) receive(1, 334) pass(30) = 1",
            ONE_RATE + "setThreshold(1) receive(1, 333) pass(30) = 0",
            ONE_RATE + "setThreshold(10000) receive(1, 3333333) pass(30) = 0",
            ONE_RATE + "setThreshold(10000) receive(1, 3333334) pass(30) = 10000",
            "open(1) setRates(FULL, 2000, 0) " + FILL_1 + "pay(1, 19) pass(30) = 0 of(1, 0) = 999999981",
            "open(1) setRates(FULL, 2000, 0) " + FILL_1 + "pay(1, 20) pass(30) = 20 of(1, 0) = FULL",
            // what is left of the count after 29 makes 31 of 30 the next time
            "open(1) setThreshold(0) setRates(FULL, 1, 0) receive(1, 3649999) pass(30) = 29 of(1, 3) = 0 "
                + "pass(30) = 31");
        says("An interest of 0 is not credited.",
            "open(1) setThreshold(0) receive(1, 1) pass(30) = 0 entries() = 1 of(1, 5) = 0 pass(370) = 0 entries() = 1",
            "open(1) setThreshold(0) pass(30) = 0 entries() = 0 of(1, 5) = 0",
            ONE_RATE + "receive(1, 333) pass(30) = 0 entries() = 1 of(1, 5) = 0",
            ONE_RATE + "receive(1, 334) pass(30) = 1 entries() = 2 of(1, 5) = 30",
            "open(1) setThreshold(0) " + FILL_1 + "pass(30) = 0 entries() = 10 of(1, 5) = 0");
        says("After this the holds end whose last day is over.",
            ONE_RATE + "receive(1, 10000) hold(1, 6000, 29) hold(1, 4000, 30) pass(30) = 30 of(1, 0) = 10030 "
                + "of(1, 1) = 4000 pass(1) of(1, 1) = 0");
    }

    static long checkNumber(long before, long day, long kind, long client, long second, long amount) {
        long[][] terms = {{before, 1009}, {day, 31}, {kind, 17}, {client, 101}, {second, 103}, {amount, 1}};
        BigInteger sum = BigInteger.ZERO;
        for (long[] term : terms) {
            sum = sum.add(BigInteger.valueOf(term[0]).multiply(BigInteger.valueOf(term[1])));
        }
        return sum.mod(BigInteger.valueOf(1000003)).longValue();
    }

    // Each entry's check number from the one before it, for all entries of a run with at most 24 of them.
    static void chain(String run) {
        long check = 7;
        long entries = ask(run, "entries()");
        for (int entry = 1; entry <= entries; entry++) {
            long[] of = new long[7];
            for (int what = 0; what <= 6; what++) {
                of[what] = ask(run, "entry(" + entry + ", " + what + ")");
            }
            check = checkNumber(check, of[0], of[1], of[2], of[3], of[4]);
            due(run + "entry(" + entry + ", 5)", of[5], check);
        }
    }

    static void trail() {
        says("Each of these makes an entry: a receipt (kind 1), a payment (2), a transfer (3), a settlement (4), "
            + "interest that is credited (5) and a reversal (6).",
            "open(1) open(2) entries() = 0 receive(1, 100000) entries() = 1 entry(1, 1) = 1 pay(1, 5) entries() = 2 "
                + "entry(2, 1) = 2 transfer(1, 2, 7) entries() = 3 entry(3, 1) = 3 bill(1, 3) entries() = 3 settle(1) "
                + "entries() = 4 entry(4, 1) = 4 hold(1, 1, 1) release(1) setRates(9, 100, 100) setThreshold(0) "
                + "open(3) close(3) entries() = 4 pass(30) = 82 entries() = 5 entry(5, 1) = 5 reverse(2) = 6 "
                + "entries() = 6 entry(6, 1) = 6",
            "open(1) setThreshold(0) receive(1, 100000) pass(90) entries() = 4 entry(4, 1) = 5",
            "open(1) receive(1, 100000) write(p1:5) entries() = 1 carryOut() = 1 entries() = 2 undo() entries() = 1");
        says("Entries are numbered from 1.",
            "open(1) entry(0, 0) = NO_SUCH entry(1, 0) = NO_SUCH receive(1, 5) entry(0, 0) = NO_SUCH entry(1, 4) = 5 "
                + "entry(2, 0) = NO_SUCH receive(1, 6) entry(1, 4) = 5 entry(2, 4) = 6");
        says("An entry has a day, a kind, a client, a second client (only of a transfer, or of a reversal of one, "
            + "otherwise 0), an amount and a check number.",
            "open(7) open(9) pass(2) receive(7, 500000) entry(1, 0) = 2 entry(1, 2) = 7 entry(1, 3) = 0 "
                + "entry(1, 4) = 500000",
            "open(7) open(9) receive(7, 500000) pass(3) pay(7, 60) entry(2, 0) = 3 entry(2, 2) = 7 entry(2, 3) = 0 "
                + "entry(2, 4) = 60 pass(1) reverse(2) = 3 entry(3, 0) = 4 entry(3, 2) = 7 entry(3, 3) = 0 "
                + "entry(3, 4) = 60",
            "open(7) open(9) receive(7, 500000) pass(3) transfer(7, 9, 70) entry(2, 0) = 3 entry(2, 2) = 7 "
                + "entry(2, 3) = 9 entry(2, 4) = 70 pass(1) reverse(2) = 3 entry(3, 0) = 4 entry(3, 2) = 7 "
                + "entry(3, 3) = 9 entry(3, 4) = 70",
            "open(7) receive(7, 500000) bill(7, 80) pass(5) settle(1) entry(2, 0) = 5 entry(2, 2) = 7 entry(2, 3) = 0 "
                + "entry(2, 4) = 80",
            "open(7) setRates(FULL, 365, 0) receive(7, 10000) pass(45) entry(2, 0) = 30 entry(2, 2) = 7 "
                + "entry(2, 3) = 0 entry(2, 4) = 30");
    }

    static void checkNumbers() {
        says("The check number of the entry 0, which does not exist, is 7; that of each other entry is (check number "
            + "of the entry before * 1009 + day * 31 + kind * 17 + client * 101 + second client * 103 + amount) modulo "
            + "1000003, computed without overflow.",
            // 7063 + 17 + 101 + amount
            "open(1) receive(1, 1) entry(1, 5) = 7182",
            "open(1) receive(1, 992821) entry(1, 5) = 1000002",
            "open(1) receive(1, 992822) entry(1, 5) = 0",
            "open(1) receive(1, 992823) entry(1, 5) = 1",
            // 0 * 1009 + 31 + 34 + 101 + 5
            "open(1) receive(1, 992822) pass(1) pay(1, 5) entry(2, 5) = 171",
            // 1 * 1009 + 51 + 101 + 103 * 3 + 5
            "open(1) open(3) receive(1, 992823) transfer(1, 3, 5) entry(2, 5) = 1475");
        chain(RICH);
        chain("open(99) open(98) " + TO_THE_END + "receive(99, MOST) transfer(99, 98, MOST) reverse(2) "
            + "pay(99, 99999999) receive(98, 992821) receive(98, MOST) ");
        // the greatest of all sums: an interest of 1000000000 on a late day for the client 99
        String late = "open(99) setRates(FULL, 2000, 0) 10 * receive(99, MOST) 24 * pass(400) pass(389) "
            + "10 * pay(99, MOST) ";
        run(late + "pass(1) = FULL entry(21, 4) = FULL entry(21, 0) = 9990");
        chain(late + "pass(1) ");
        says("The latest 24 entries are kept.",
            "open(1) " + times(1, 24, "receive(1, #)") + "entry(1, 4) = 1 entry(24, 4) = 24 receive(1, 25) "
                + "entry(1, 4) = NO_SUCH entry(2, 4) = 2 entry(25, 4) = 25 entry(26, 4) = NO_SUCH",
            "open(1) " + times(1, 49, "receive(1, #)") + "entry(25, 4) = NO_SUCH " + times(26, 49, "entry(#, 4) = #")
                + "entry(50, 4) = NO_SUCH entry(1, 4) = NO_SUCH");
    }

    static void reversals() {
        says("A receipt, a payment or a transfer that is kept can be reversed once: its amount is moved back, and an "
            + "entry of the kind 6 is made with the same clients and the same amount.",
            "open(1) receive(1, 90) receive(1, 5) reverse(1) = 3 of(1, 0) = 5 entry(3, 1) = 6 entry(3, 2) = 1 "
                + "entry(3, 3) = 0 entry(3, 4) = 90 receive(1, 900) reverse(1) = NOT_POSSIBLE "
                + "reverse(3) = NOT_POSSIBLE",
            "open(1) receive(1, 90) pay(1, 50) reverse(2) = 3 of(1, 0) = 90 entry(3, 1) = 6 entry(3, 2) = 1 "
                + "entry(3, 3) = 0 entry(3, 4) = 50 reverse(2) = NOT_POSSIBLE reverse(3) = NOT_POSSIBLE",
            "open(1) open(2) receive(1, 90) transfer(1, 2, 60) reverse(2) = 3 of(1, 0) = 90 of(2, 0) = 0 "
                + "entry(3, 1) = 6 entry(3, 2) = 1 entry(3, 3) = 2 entry(3, 4) = 60 receive(2, 900) "
                + "reverse(2) = NOT_POSSIBLE reverse(3) = NOT_POSSIBLE",
            "open(1) receive(1, 7) 23 * receive(1, 1) reverse(1) = 25 of(1, 0) = 23 reverse(1) = NO_SUCH "
                + "reverse(2) = 26 of(1, 0) = 22",
            "open(1) receive(1, 7) 24 * receive(1, 1) reverse(1) = NO_SUCH of(1, 0) = 31 reverse(2) = 26",
            "open(1) receive(1, 7) reverse(1) = 2 undo() reverse(1) = 2 reverse(1) = NOT_POSSIBLE",
            "open(1) open(2) receive(2, 90) transfer(2, 1, 60) reverse(2) = 3 of(2, 0) = 90 of(1, 0) = 0",
            // a new entry is not reversed, where the one that it drives out was
            "open(1) receive(1, 5) reverse(1) 22 * receive(1, 1) receive(1, 7) entry(25, 6) = 0 reverse(25) = 26 "
                + "of(1, 0) = 22");
        for (int i = 1; i <= 49; i++) {
            run("open(1) # * receive(1, 1) entry(#, 6) = 0 reverse(#) entry(#, 6) = 1 reverse(#) = NOT_POSSIBLE"
                .replace("#", Integer.toString(i)));
        }
    }

    static void syntax(String text, long want) {
        run((text.isEmpty() ? "" : "write(" + text + ") = " + text.length() + " ") + "syntaxError() = "
            + (want < 0 ? "NONE" : Long.toString(want)));
    }

    static void whole(String... texts) {
        for (String text : texts) {
            syntax(text, -6);
        }
    }

    static void unfinished(String... texts) {
        for (String text : texts) {
            syntax(text, text.length());
        }
    }

    // The first character that is too much stands behind the mark.
    static void broken(String... texts) {
        for (String text : texts) {
            syntax(text.replace("|", ""), text.indexOf('|'));
        }
    }

    static final String LETTERS = "rptbsd";
    static final String DIGITS = "0123456789";

    // Of all characters, only these can go on a text that was begun well.
    static void goOn(String begun, String signs) {
        int length = begun.length();
        for (int code = 33; code <= 126; code++) {
            long got = ask((begun.isEmpty() ? "" : "write(" + begun + ") ") + "type(" + code + ") ", "syntaxError()");
            boolean good = signs.indexOf(code) >= 0 ? got == -6 || got == length + 1 : got == length;
            due(begun + (char) code + ": good or not", good ? 1 : 0, 1);
        }
    }

    static void textAndUndo() {
        says("There is a text of at most 80 characters, which is empty initially.",
            "syntaxError() = 0 clearText() = 0",
            "write(" + DAYS_80.substring(1) + ") = 79 type(33) = 80 type(33) = LIMIT clearText() = 80 type(33) = 1",
            "write(" + DAYS_80 + ") = 80 type(49) = LIMIT syntaxError() = NONE carryOut() = 27 type(49) = 1");
        says("An order list is a text of the form order { \";\" order }, where an order is \"r\" number \":\" number "
            + "(receive), \"p\" number \":\" number (pay), \"t\" number \">\" number \":\" number (transfer from the "
            + "first client to the second one), \"b\" number \":\" number (bill), \"s\" number (settle) or \"d\" "
            + "number (days).",
            "open(12) write(r12:345) carryOut() = 1 of(12, 0) = 345 entry(1, 1) = 1",
            "open(12) receive(12, 400) write(p12:345) carryOut() = 1 of(12, 0) = 55 entry(2, 1) = 2",
            "open(12) open(34) receive(12, 400) write(t12>34:345) carryOut() = 1 of(12, 0) = 55 of(34, 0) = 345",
            "open(12) write(b12:345) carryOut() = 1 billOf(1, 0) = 12 billOf(1, 1) = 345",
            "open(12) receive(12, 400) bill(12, 5) bill(12, 6) write(s2) carryOut() = 1 sum(2) = 6",
            "write(d345) carryOut() = 1 day() = 345",
            "open(1) write(r1:9;p1:2;r1:5) carryOut() = 3 of(1, 0) = 12 entry(2, 4) = 2 entry(3, 4) = 5");
        whole("r1:2", "p1:2", "t1>2:3", "b1:2", "s1", "d1", "s1;s2", "r1:2;p1:2;t1>2:3;b1:2;s1;d1");
        unfinished("", "r", "r1", "r1:", "p", "p1", "p1:", "t", "t1", "t1>", "t1>2", "t1>2:", "b", "b1", "b1:", "s",
            "d", "d1;");
        broken("|R1:2", "|1", "|;d1", "|:", "|>", "|x1", "r|:1", "r|r", "r1|>2", "r1|;", "r1:|:", "r1:|;", "r1:2|:3",
            "p1|>2", "b1|>2", "b1|;", "t1|:2", "t1|;", "t1>|>", "t1>2|>3", "t1>2|;", "t1>2:3|:4", "t1>2:3|>4", "s|;",
            "s1|:2", "s1|>2", "d1|:2", "d1|>2", "d|-1", "d1|,d1", "d1;|;d1", "d1;|1", "s1|s1", "d1|.");
        says("A number has 1 to 6 digits; leading zeros are allowed.",
            "open(7) write(r000007:000005) carryOut() = 1 of(7, 0) = 5",
            "open(7) write(r7:999999;p07:099999;b007:1;s000001) carryOut() = 4 of(7, 0) = 899999",
            "open(7) open(8) receive(7, 50) write(t000007>000008:000050;d000400) carryOut() = 2 of(8, 0) = 50 "
                + "day() = 400",
            "write(d000000) carryOut() = 0 day() = 0");
        whole("r1:1", "r123456:123456", "r000000:000000", "p123456:1", "p1:123456", "t123456>123456:123456",
            "b123456:123456", "s123456", "s000000", "d123456", "d0", "d000001");
        broken("r|:1", "r123456|7:1", "r1:123456|7", "r000000|1:1", "p|:1", "p123456|7:1", "p1:123456|7", "t|>1:1",
            "t1>|:1", "t123456|7>1:1", "t1>123456|7:1", "t1>1:123456|7", "b|:1", "b123456|7:1", "b1:123456|7", "s|;",
            "s123456|7", "s000000|0", "d|;", "d123456|7", "d000000|1");
        undoSaves();
        says("At most 6 states are saved; when a seventh one is saved, the oldest one is discarded.",
            times(1, 6, "open(#)") + "undo() = 5 undo() = 4 undo() = 3 undo() = 2 undo() = 1 undo() = 0 "
                + "undo() = NOT_POSSIBLE clients() = 0",
            times(1, 7, "open(#)") + "undo() = 5 undo() = 4 undo() = 3 undo() = 2 undo() = 1 undo() = 0 "
                + "undo() = NOT_POSSIBLE clients() = 1 of(1, 0) = 0 of(2, 0) = NO_SUCH",
            times(1, 8, "open(#)") + "4 * undo() open(50) = 5 3 * undo() undo() = NOT_POSSIBLE clients() = 2",
            "open(1) " + times(1, 40, "receive(1, #)") + "undo() = 5 of(1, 0) = 780 4 * undo() undo() = 0 "
                + "of(1, 0) = 595 undo() = NOT_POSSIBLE entries() = 34");
        undoRestores();
    }

    static final String[] UNDOABLE = {
        "setRates(1, 2, 3)", "setThreshold(77)", "open(50)", "close(40)", "receive(1, 5)", "pay(1, 5)",
        "transfer(1, 2, 5)", "hold(1, 5, 5)", "release(1)", "bill(1, 5)", "settle(2)", "pass(30)", "reverse(2)",
        "carryOut()",
    };

    static final String[] NOT_UNDOABLE = {
        "day()", "clients()", "ranked(0, 0)", "ranked(1, 1)", "ranked(2, 2)", "ranked(3, 0)", "of(1, 3)",
        "holdOf(1, 2)", "billOf(2, 1)", "entries()", "entry(8, 5)", "sum(3)", "payableOn(1, 100)", "payableOn(1, MOST)",
        "interestIn(1, 400)", "syntaxError()", "digest()",
    };

    static void undoSaves() {
        says("Methods marked \"Undoable\" save the state from before the call if they return no error code.");
        for (String call : UNDOABLE) {
            undoes(RICH + "undo() ", call);
            run(RICH + "undo() = 5 " + call + " undo() = 5 undo() = 4");
            run(RICH + call + " undo() = 5 undo() = 4");
        }
        // an answer of 0 is no error code
        String still = "setRates(0, 5, 5) setThreshold(0) open(1) open(2) receive(1, 9) ";
        undoes(still, "setRates(1, 5, 5) = 0");
        undoes(still, "setThreshold(1) = 0");
        undoes(still, "pay(1, 9) = 0");
        undoes(still, "transfer(1, 2, 9) = 0");
        undoes(still, "pass(1) = 0");
        undoes("open(1) ", "close(1) = 0");
        undoes("open(1) write(s1) ", "carryOut() = 0");
        for (String call : NOT_UNDOABLE) {
            leaves(RICH, call);
            leaves(RICH + "undo() ", call);
        }
        leaves("open(1) receive(1, 5) ", "clearText()");
        leaves("open(1) receive(1, 5) ", "type(59) clearText()");
        same("undo() saves a state", portrait("open(1) open(2) undo() "), portrait("open(1) "));
    }

    static void undoRestores() {
        says("The state is everything except the text and the saved states.",
            "setRates(7, 1825, 365) setRates(8, 0, 0) undo() setRates(9, 0, 0) = 7",
            "open(1) receive(1, 10000) setRates(2000, 1825, 365) setRates(2000, 0, 0) undo() pass(10) of(1, 3) = 18",
            "setThreshold(7) setThreshold(8) undo() setThreshold(9) = 7",
            "open(1) open(2) undo() clients() = 1 of(2, 0) = NO_SUCH open(2) = 2",
            "open(1) open(2) close(1) undo() clients() = 2 ranked(0, 0) = 1",
            "open(1) receive(1, 5) receive(1, 4) undo() of(1, 0) = 5 sum(4) = 5 sum(0) = 5 entries() = 1",
            "open(1) receive(1, 5) pay(1, 4) undo() of(1, 0) = 5 sum(5) = 0 entries() = 1",
            ONE_RATE + "receive(1, 10000) pass(7) pass(9) undo() day() = 7 of(1, 3) = 7",
            ONE_RATE + "receive(1, 10000) pass(30) pass(30) undo() sum(3) = 30 of(1, 0) = 10030 of(1, 5) = 30 "
                + "entries() = 2",
            ONE_RATE + "receive(1, 10000) pass(7) pay(1, 10000) close(1) undo() of(1, 3) = 7",
            "open(1) pass(3) receive(1, 5) pass(3) receive(1, 5) undo() of(1, 5) = 3",
            "open(1) receive(1, 9) hold(1, 2, 5) hold(1, 3, 5) = 2 undo() of(1, 6) = 1 of(1, 1) = 2 hold(1, 3, 5) = 2",
            "open(1) receive(1, 9) hold(1, 2, 5) release(1) undo() holdOf(1, 1) = 2 hold(1, 3, 5) = 2",
            "open(1) receive(1, 9) hold(1, 2, 5) pass(6) undo() holdOf(1, 2) = 5",
            "open(1) bill(1, 2) bill(1, 3) = 2 undo() of(1, 7) = 1 of(1, 4) = 2 bill(1, 3) = 2",
            "open(1) receive(1, 9) bill(1, 12) settle(1) = 9 undo() billOf(1, 1) = 12 billOf(1, 2) = 0 sum(2) = 0 "
                + "of(1, 0) = 9",
            "open(1) receive(1, 9) bill(1, 9) settle(1) = 9 undo() billOf(1, 1) = 9 bill(1, 3) = 2",
            "open(1) receive(1, 9) reverse(1) undo() entry(1, 6) = 0 sum(4) = 9 reverse(1) = 2",
            "open(1) receive(1, 9) pay(1, 9) undo() pay(1, 9) entry(2, 5) = 254833",
            "open(1) " + times(1, 25, "receive(1, #)") + "undo() entry(1, 4) = 1 entry(24, 4) = 24 "
                + "entry(25, 4) = NO_SUCH reverse(1) = 25",
            times(1, 12, "open(#)") + "close(12) open(99) undo() undo() ranked(0, 11) = 12 of(99, 0) = NO_SUCH",
            // but neither the text nor the saved states
            "write(s) open(1) write(1) undo() clearText() = 2",
            "write(s1) open(1) clearText() = 2 undo() clearText() = 0",
            "open(1) write(s1) carryOut() = 0 undo() = 1 clearText() = 0",
            "open(1) open(2) undo() = 1 undo() = 0 undo() = NOT_POSSIBLE clients() = 0");
        undoes(CROWDED, "pass(400)");
        undoes(CROWDED, "receive(12, 7)");
        undoes(CROWDED, "transfer(11, 12, 7)");
        undoes(CROWDED, "reverse(46)");
        undoes(CROWDED, "release(1)");
        undoes(CROWDED, "settle(1)");
        restored(CROWDED, "release(15) hold(4, 50, 9) undo() undo() ");
        restored(CROWDED, "settle(15) bill(11, 50) undo() undo() ");
    }

    static void errorCodes() {
        says("A call that returns NO_SUCH, BAD_VALUE, NOT_POSSIBLE, LIMIT or BAD_TEXT changes nothing.",
            // each error code of each method, on a book that has something of everything
            RICH + "setRates(-1, 0, 0) = BAD_VALUE setRates(1, 2, 2001) = BAD_VALUE setThreshold(10001) = BAD_VALUE "
                + "open(0) = BAD_VALUE open(2) = NOT_POSSIBLE close(3) = NO_SUCH close(1) = NOT_POSSIBLE",
            RICH + "receive(3, 1) = NO_SUCH receive(1, 0) = BAD_VALUE pay(3, 1) = NO_SUCH pay(1, 0) = BAD_VALUE "
                + "pay(1, MOST) = NOT_POSSIBLE transfer(1, 3, 1) = NO_SUCH transfer(1, 1, 1) = BAD_VALUE "
                + "transfer(1, 2, MOST) = NOT_POSSIBLE",
            RICH + "hold(3, 1, 1) = NO_SUCH hold(1, 1, 0) = BAD_VALUE hold(1, MOST, 1) = NOT_POSSIBLE "
                + "release(2) = NO_SUCH bill(3, 1) = NO_SUCH bill(1, 0) = BAD_VALUE settle(1) = NO_SUCH "
                + "pass(401) = BAD_VALUE",
            RICH + "reverse(9) = NO_SUCH reverse(3) = NOT_POSSIBLE reverse(5) = NOT_POSSIBLE ranked(4, 0) = BAD_VALUE "
                + "ranked(0, 3) = NO_SUCH of(3, 0) = NO_SUCH of(1, 8) = BAD_VALUE holdOf(2, 0) = NO_SUCH "
                + "holdOf(1, 3) = BAD_VALUE billOf(1, 0) = NO_SUCH billOf(2, 3) = BAD_VALUE",
            RICH + "entry(9, 0) = NO_SUCH entry(1, 7) = BAD_VALUE sum(6) = BAD_VALUE payableOn(3, 1) = NO_SUCH "
                + "payableOn(1, 0) = BAD_VALUE interestIn(3, 1) = NO_SUCH interestIn(1, 0) = BAD_VALUE "
                + "type(32) = BAD_VALUE type(59) = 8 carryOut() = BAD_TEXT clearText() = 8",
            RICH + "9 * receive(1, MOST) receive(1, MOST) = LIMIT receive(1, 99900000) pay(1, 50000) receive(1, 60000) "
                + "transfer(2, 1, 50000) = LIMIT reverse(19) = LIMIT",
            RICH + "bill(40, 5) = 4 settle(4) = NOT_POSSIBLE",
            RICH + times(50, 58, "open(#)") + "open(59) = LIMIT",
            RICH + "14 * hold(1, 1, 9) hold(1, 1, 9) = LIMIT",
            RICH + "13 * bill(1, 1) bill(1, 1) = LIMIT",
            RICH + "hold(2, 1, 1) 24 * pass(400) pass(400) = LIMIT",
            RICH + "6 * undo() undo() = NOT_POSSIBLE",
            RICH + "write(" + DAYS_80.substring(7) + ") = 80 type(33) = LIMIT");
        says("If several of them apply, the one that is named first in the @return line is returned.",
            times(1, 12, "open(#)") + "open(0) = BAD_VALUE open(100) = BAD_VALUE open(12) = NOT_POSSIBLE",
            "open(1) receive(2, 0) = NO_SUCH receive(2, 100000001) = NO_SUCH pay(2, 0) = NO_SUCH "
                + "pay(2, MOST) = NO_SUCH pay(1, 100000001) = BAD_VALUE",
            "open(1) " + FILL_1 + "receive(1, 100000001) = BAD_VALUE receive(1, 0) = BAD_VALUE",
            "open(1) open(2) " + FILL_1 + "transfer(2, 2, 0) = BAD_VALUE transfer(3, 3, 0) = NO_SUCH "
                + "transfer(3, 1, 1) = NO_SUCH transfer(2, 3, 1) = NO_SUCH transfer(1, 1, 1) = BAD_VALUE "
                + "transfer(1, 1, MOST) = BAD_VALUE transfer(2, 1, 100000001) = BAD_VALUE "
                + "transfer(2, 1, 1) = NOT_POSSIBLE",
            "open(1) receive(1, 15) 15 * hold(1, 1, 9) hold(2, 0, 0) = NO_SUCH hold(2, 1, 1) = NO_SUCH "
                + "hold(1, 0, 1) = BAD_VALUE hold(1, 1, 0) = BAD_VALUE hold(1, 100000001, 1) = BAD_VALUE "
                + "hold(1, 1, 1000) = BAD_VALUE hold(1, 1, 1) = NOT_POSSIBLE",
            "open(1) 15 * bill(1, 1) bill(2, 1) = NO_SUCH bill(2, 0) = NO_SUCH bill(1, 0) = BAD_VALUE "
                + "bill(1, 100000001) = BAD_VALUE",
            TO_THE_END + "pass(0) = BAD_VALUE pass(401) = BAD_VALUE",
            // a settlement that is not kept; a payment that was reversed, for a full account; held, for a full one
            "open(1) receive(1, 5) bill(1, 5) settle(1) 24 * receive(1, 1) reverse(2) = NO_SUCH reverse(1) = NO_SUCH",
            "open(1) receive(1, 9) pay(1, 9) reverse(2) " + "9 * receive(1, MOST) receive(1, 99999991) "
                + "reverse(2) = NOT_POSSIBLE",
            "open(1) open(2) receive(1, 9) transfer(1, 2, 9) " + FILL_1 + "reverse(2) = LIMIT hold(2, 1, 1) "
                + "reverse(2) = NOT_POSSIBLE release(1) pay(2, 9) close(2) reverse(2) = NOT_POSSIBLE",
            "open(1) ranked(4, 1) = BAD_VALUE ranked(-1, -1) = BAD_VALUE",
            "open(1) of(2, 8) = NO_SUCH of(2, -1) = NO_SUCH holdOf(1, 3) = NO_SUCH holdOf(0, -1) = NO_SUCH "
                + "billOf(1, 3) = NO_SUCH billOf(0, -1) = NO_SUCH entry(1, 7) = NO_SUCH entry(0, -1) = NO_SUCH",
            "open(1) 25 * receive(1, 1) entry(1, 7) = NO_SUCH",
            "payableOn(1, 0) = NO_SUCH payableOn(1, 100000001) = NO_SUCH interestIn(1, 0) = NO_SUCH "
                + "interestIn(1, 401) = NO_SUCH",
            "write(" + DAYS_80 + ") type(32) = BAD_VALUE type(127) = BAD_VALUE");
        says("NONE is not an error code.",
            "open(1) receive(1, 5) payableOn(1, 6) = NONE undo() = 1 write(d1) syntaxError() = NONE carryOut() = 1");
    }

    static void constants() {
        says("`NO_SUCH = -1`: There is no such client, hold, bill, entry or place.",
            "of(1, 0) = -1 holdOf(1, 0) = -1 billOf(1, 0) = -1 entry(1, 0) = -1 ranked(0, 0) = -1");
        due("NO_SUCH", ClientMoneyBook.NO_SUCH, -1);
        says("`BAD_VALUE = -2`: Another argument is out of its range.", "open(1) of(1, 8) = -2 receive(1, 0) = -2");
        due("BAD_VALUE", ClientMoneyBook.BAD_VALUE, -2);
        says("`NOT_POSSIBLE = -3`: The call is not possible in the present state.", "undo() = -3 open(1) open(1) = -3");
        due("NOT_POSSIBLE", ClientMoneyBook.NOT_POSSIBLE, -3);
        says("`LIMIT = -4`: A limit would be exceeded.", "open(1) 15 * bill(1, 1) bill(1, 1) = -4");
        due("LIMIT", ClientMoneyBook.LIMIT, -4);
        says("`BAD_TEXT = -5`: The text is not an order list.", "carryOut() = -5");
        due("BAD_TEXT", ClientMoneyBook.BAD_TEXT, -5);
        says("`NONE = -6`: There is no such result.", "open(1) payableOn(1, 1) = -6 write(s1) syntaxError() = -6");
        due("NONE", ClientMoneyBook.NONE, -6);
        says("Ahead of the calls `payableOn`, `interestIn` the interface says: ---- forecasts; they change nothing.");
        String held = ONE_RATE + "receive(1, 10000) pass(7) hold(1, 9000, 40) bill(1, 5) ";
        leaves(held, "payableOn(1, 1000)");
        leaves(held, "payableOn(1, 10000)");
        leaves(held, "payableOn(1, 10397)");
        leaves(held, "payableOn(1, MOST)");
        leaves(held, "interestIn(1, 1)");
        leaves(held, "interestIn(1, 400)");
    }

    // ---- the promises

    static void newObject() {
        section("Promise 1: A new object");
        says("Creates a book without clients.",
            "clients() = 0 ranked(0, 0) = NO_SUCH ranked(1, 0) = NO_SUCH ranked(2, 0) = NO_SUCH ranked(3, 0) = NO_SUCH "
                + "day() = 0 entries() = 0 clearText() = 0 undo() = NOT_POSSIBLE",
            times(0, 100, "of(#, 0) = NO_SUCH"),
            times(0, 16, "holdOf(#, 0) = NO_SUCH billOf(#, 0) = NO_SUCH entry(#, 0) = NO_SUCH"),
            times(0, 5, "sum(#) = 0"),
            "setRates(1, 1, 1) = 100000 setThreshold(1) = 20");
    }

    static void setRates() {
        section("Promise 2: setRates");
        String one = "open(1) setThreshold(10000) receive(1, 10000) ";
        says("Changes the rates. Undoable.",
            one + "setRates(2000, 1825, 365) = 100000 pass(10) of(1, 3) = 18",
            one + "pass(1) setRates(FULL, 365, 0) undo() setRates(1, 1, 1) = 100000");
        undoes(one, "setRates(2000, 1825, 365)");
        says("`limit`: 0 to 1000000000",
            one + "setRates(0, 0, 365) = 100000 pass(1) of(1, 3) = 1",
            one + "setRates(FULL, 365, 0) pass(1) of(1, 3) = 1",
            one + "setRates(-1, 0, 365) = BAD_VALUE setRates(1000000001, 365, 0) = BAD_VALUE "
                + "setRates(1, 1, 1) = 100000");
        says("`low`: 0 to 2000",
            one + "setRates(FULL, 0, 9) = 100000 pass(73) of(1, 3) = 0",
            one + "setRates(FULL, 2000, 0) = 100000 pass(73) of(1, 3) = 400",
            one + "setRates(5, -1, 5) = BAD_VALUE setRates(5, 2001, 5) = BAD_VALUE setRates(1, 1, 1) = 100000");
        says("`high`: 0 to 2000",
            one + "setRates(0, 9, 0) = 100000 pass(73) of(1, 3) = 0",
            one + "setRates(0, 0, 2000) = 100000 pass(73) of(1, 3) = 400",
            one + "setRates(5, 5, -1) = BAD_VALUE setRates(5, 5, 2001) = BAD_VALUE setRates(1, 1, 1) = 100000");
        says("Returns the previous limit",
            "setRates(FULL, 1, 2) = 100000 setRates(0, 3, 4) = FULL setRates(5, 6, 7) = 0 setRates(8, 9, 9) = 5 "
                + "setRates(-1, 9, 9) = BAD_VALUE setRates(3, 2001, 9) = BAD_VALUE setRates(1, 9, 9) = 8");
        says("BAD_VALUE if an argument is out of range",
            one + "setRates(MIN, 5, 5) = BAD_VALUE setRates(MAX, 5, 5) = BAD_VALUE setRates(-1, 5, 5) = BAD_VALUE "
                + "setRates(1000000001, 5, 5) = BAD_VALUE",
            one + "setRates(5, MIN, 5) = BAD_VALUE setRates(5, MAX, 5) = BAD_VALUE setRates(5, -1, 5) = BAD_VALUE "
                + "setRates(5, 2001, 5) = BAD_VALUE",
            one + "setRates(5, 5, MIN) = BAD_VALUE setRates(5, 5, MAX) = BAD_VALUE setRates(5, 5, -1) = BAD_VALUE "
                + "setRates(5, 5, 2001) = BAD_VALUE",
            "setRates(MIN, MIN, MIN) = BAD_VALUE setRates(MAX, MAX, MAX) = BAD_VALUE undo() = NOT_POSSIBLE");
    }

    static void setThreshold() {
        section("Promise 3: setThreshold");
        String thirty = ONE_RATE + "receive(1, 10000) ";
        says("Changes the threshold. Undoable.",
            thirty + "setThreshold(30) = 0 pass(30) = 30", thirty + "setThreshold(31) = 0 pass(30) = 0",
            thirty + "setThreshold(31) = 0 undo() pass(30) = 30");
        undoes(thirty, "setThreshold(31)");
        says("`threshold`: 0 to 10000",
            "setThreshold(0) = 20 setThreshold(10000) = 0 setThreshold(10001) = BAD_VALUE setThreshold(-1) = BAD_VALUE "
                + "setThreshold(1) = 10000");
        says("Returns the previous threshold",
            "setThreshold(10000) = 20 setThreshold(0) = 10000 setThreshold(7) = 0 setThreshold(-1) = BAD_VALUE "
                + "setThreshold(8) = 7");
        says("BAD_VALUE if threshold is out of range",
            "setThreshold(-1) = BAD_VALUE setThreshold(10001) = BAD_VALUE setThreshold(MIN) = BAD_VALUE "
                + "setThreshold(MAX) = BAD_VALUE undo() = NOT_POSSIBLE setThreshold(1) = 20");
    }

    static void open() {
        section("Promise 4: open");
        says("Opens an account for a client. Undoable.",
            "open(7) = 1 of(7, 0) = 0 of(7, 1) = 0 of(7, 2) = 0 of(7, 3) = 0 of(7, 4) = 0 of(7, 5) = 0 of(7, 6) = 0 "
                + "of(7, 7) = 0 receive(7, 5) = 5 of(6, 0) = NO_SUCH of(8, 0) = NO_SUCH entries() = 1");
        undoes("open(8) receive(8, 5) ", "open(7)");
        undoes("open(6) receive(6, 5) ", "open(7)");
        says("`client`: 1 to 99",
            "open(1) = 1 open(99) = 2 of(1, 0) = 0 of(99, 0) = 0", "open(0) = BAD_VALUE open(100) = BAD_VALUE");
        says("Returns the number of clients then",
            "open(9) = 1 open(3) = 2 open(6) = 3 close(3) = 2 open(4) = 3 open(4) = NOT_POSSIBLE open(5) = 4 "
                + "clients() = 4",
            times(88, 99, "open(#)").replace("open(99)", "open(99) = 12"));
        says("BAD_VALUE if client is out of range",
            "open(0) = BAD_VALUE open(100) = BAD_VALUE open(-1) = BAD_VALUE open(101) = BAD_VALUE "
                + "open(MIN) = BAD_VALUE open(MAX) = BAD_VALUE clients() = 0");
        says("NOT_POSSIBLE if there is this client already",
            "open(1) open(99) open(1) = NOT_POSSIBLE open(99) = NOT_POSSIBLE clients() = 2",
            "open(5) receive(5, 9) open(5) = NOT_POSSIBLE of(5, 0) = 9 pay(5, 9) close(5) = 0 open(5) = 1");
        says("LIMIT if there are 12 clients",
            times(1, 11, "open(#)") + "open(50) = 12 open(51) = LIMIT open(99) = LIMIT clients() = 12",
            times(1, 12, "open(#)") + "open(13) = LIMIT undo() open(13) = 12 open(12) = LIMIT");
    }

    static void close() {
        section("Promise 5: close");
        says("Closes the account of a client; what its count of interest has is lost. Undoable.",
            "open(1) open(2) open(3) receive(3, 5) close(2) = 2 of(2, 0) = NO_SUCH of(1, 0) = 0 of(3, 0) = 5 "
                + "ranked(0, 1) = 3",
            ONE_RATE + "receive(1, 10000) pass(9) pay(1, 10000) of(1, 3) = 9 close(1) = 0 open(1) of(1, 3) = 0 "
                + "pass(21) = 0",
            // not even less than a cent of it is left
            "open(1) setRates(FULL, 1, 0) receive(1, 3649999) pass(1) pay(1, 3649999) close(1) open(1) "
                + "receive(1, 3649999) pass(1) of(1, 3) = 0",
            ONE_RATE + "open(2) receive(1, 10000) receive(2, 30000) pass(9) pay(1, 10000) close(1) of(2, 3) = 27");
        undoes(ONE_RATE + "open(2) write(s1) pass(9) undo() ", "close(1)");
        undoes("open(1) open(2) receive(1, 9) pass(3) ", "close(2)");
        says("`client`: a client", "open(1) close(1) = 0", "open(99) close(99) = 0",
            "open(5) close(4) = NO_SUCH close(6) = NO_SUCH");
        says("Returns the number of clients then",
            "open(4) open(5) open(6) close(5) = 2 close(6) = 1 close(4) = 0 clients() = 0");
        says("NO_SUCH if there is no such client",
            "close(1) = NO_SUCH open(1) close(1) = 0 close(1) = NO_SUCH",
            "open(1) close(0) = NO_SUCH close(-1) = NO_SUCH close(100) = NO_SUCH close(2) = NO_SUCH "
                + "close(MIN) = NO_SUCH close(MAX) = NO_SUCH clients() = 1");
        says("NOT_POSSIBLE if its balance is not 0, or if it has an open bill.",
            "open(1) receive(1, 1) close(1) = NOT_POSSIBLE hold(1, 1, 1) close(1) = NOT_POSSIBLE release(1) pay(1, 1) "
                + "close(1) = 0",
            "open(1) open(2) bill(1, 1) close(1) = NOT_POSSIBLE receive(2, 5) transfer(2, 1, 1) settle(1) = 1 "
                + "close(1) = 1",
            "open(1) receive(1, 5) bill(1, 6) settle(1) = 5 of(1, 0) = 0 close(1) = NOT_POSSIBLE",
            "open(1) open(2) bill(2, 1) close(1) = 1 close(2) = NOT_POSSIBLE");
    }

    static void receive() {
        section("Promise 6: receive");
        says("Receives an amount for a client. Undoable.",
            "open(1) open(2) receive(1, 70) = 70 of(1, 0) = 70 of(2, 0) = 0 sum(4) = 70 entry(1, 1) = 1 "
                + "entry(1, 4) = 70");
        undoes("open(1) receive(1, 7) pass(2) ", "receive(1, 8)");
        says("`client`: a client", "open(1) open(99) receive(1, 5) = 5 receive(99, 6) = 6 receive(50, 7) = NO_SUCH");
        says("`amount`: 1 to 100000000",
            "open(1) receive(1, 1) = 1 receive(1, MOST) = 100000001 receive(1, 0) = BAD_VALUE "
                + "receive(1, 100000001) = BAD_VALUE");
        says("Returns the balance then",
            "open(1) receive(1, 5) = 5 receive(1, 6) = 11 hold(1, 9, 9) receive(1, 7) = 18");
        says("NO_SUCH if there is no such client",
            "receive(1, 1) = NO_SUCH",
            "open(1) receive(0, 1) = NO_SUCH receive(2, 1) = NO_SUCH receive(MIN, 1) = NO_SUCH "
                + "receive(MAX, 1) = NO_SUCH close(1) receive(1, 1) = NO_SUCH");
        says("BAD_VALUE if amount is out of range",
            "open(1) receive(1, 0) = BAD_VALUE receive(1, -1) = BAD_VALUE receive(1, 100000001) = BAD_VALUE "
                + "receive(1, MIN) = BAD_VALUE receive(1, MAX) = BAD_VALUE of(1, 0) = 0 entries() = 0");
        says("LIMIT if the balance would be greater than 1000000000.",
            "open(1) 9 * receive(1, MOST) receive(1, 1) receive(1, MOST) = LIMIT receive(1, 99999999) = FULL "
                + "receive(1, 1) = LIMIT",
            "open(1) " + FILL_1 + "of(1, 0) = FULL receive(1, 1) = LIMIT receive(1, MOST) = LIMIT entries() = 10 "
                + "pay(1, 1) receive(1, 2) = LIMIT receive(1, 1) = FULL");
    }

    static void pay() {
        section("Promise 7: pay");
        says("Pays an amount for a client. Undoable.",
            "open(1) open(2) receive(1, 70) receive(2, 80) pay(1, 30) = 40 of(2, 0) = 80 sum(5) = 30 entry(3, 1) = 2 "
                + "entry(3, 4) = 30");
        undoes("open(1) receive(1, 7) pass(2) ", "pay(1, 6)");
        says("`client`: a client",
            "open(1) open(99) receive(1, 5) receive(99, 5) pay(1, 4) = 1 pay(99, 3) = 2 pay(50, 1) = NO_SUCH");
        says("`amount`: 1 to 100000000",
            "open(1) 2 * receive(1, MOST) pay(1, 1) = 199999999 pay(1, MOST) = 99999999 pay(1, 0) = BAD_VALUE",
            "open(1) 2 * receive(1, MOST) pay(1, 100000001) = BAD_VALUE");
        says("Returns the balance then",
            "open(1) receive(1, 50) pay(1, 6) = 44 hold(1, 9, 9) pay(1, 7) = 37 pay(1, 28) = 9");
        says("NO_SUCH if there is no such client",
            "pay(1, 1) = NO_SUCH",
            "open(1) receive(1, 5) pay(0, 1) = NO_SUCH pay(2, 1) = NO_SUCH pay(MIN, 1) = NO_SUCH pay(MAX, 1) = NO_SUCH "
                + "pay(1, 5) close(1) pay(1, 1) = NO_SUCH");
        says("BAD_VALUE if amount is out of range",
            "open(1) 2 * receive(1, MOST) pay(1, 0) = BAD_VALUE pay(1, -1) = BAD_VALUE pay(1, 100000001) = BAD_VALUE "
                + "pay(1, MIN) = BAD_VALUE pay(1, MAX) = BAD_VALUE of(1, 0) = 200000000");
        says("NOT_POSSIBLE if the free sum is less than the amount.",
            "open(1) pay(1, 1) = NOT_POSSIBLE receive(1, 9) pay(1, 10) = NOT_POSSIBLE pay(1, 9) = 0",
            "open(1) receive(1, 9) hold(1, 4, 2) pay(1, 6) = NOT_POSSIBLE pay(1, 5) = 4 pay(1, 1) = NOT_POSSIBLE "
                + "pass(2) pay(1, 1) = NOT_POSSIBLE pass(1) pay(1, 5) = NOT_POSSIBLE pay(1, 4) = 0",
            "open(1) open(2) receive(1, 9) receive(2, 9) hold(2, 9, 2) pay(1, 9) = 0 pay(2, 1) = NOT_POSSIBLE");
    }

    static void transfer() {
        section("Promise 8: transfer");
        String two = "open(1) open(2) receive(1, 100) ";
        says("Transfers an amount from a client to another one. Undoable.",
            two + "transfer(1, 2, 30) = 70 of(1, 0) = 70 of(2, 0) = 30 entry(2, 1) = 3 sum(4) = 100 sum(5) = 0 "
                + "transfer(2, 1, 10) = 20");
        undoes(two + "pass(2) ", "transfer(1, 2, 30)");
        says("`from`: a client", two + "transfer(3, 2, 1) = NO_SUCH transfer(1, 2, 1) = 99 transfer(2, 1, 1) = 0");
        says("`to`: another client",
            two + "transfer(1, 3, 1) = NO_SUCH transfer(1, 1, 1) = BAD_VALUE transfer(1, 2, 1) = 99");
        says("`amount`: 1 to 100000000",
            "open(1) open(2) 2 * receive(1, MOST) transfer(1, 2, 1) = 199999999 transfer(1, 2, MOST) = 99999999 "
                + "transfer(1, 2, 0) = BAD_VALUE",
            "open(1) open(2) 2 * receive(1, MOST) transfer(1, 2, 100000001) = BAD_VALUE");
        says("Returns the balance of the first client then",
            two + "hold(1, 20, 9) transfer(1, 2, 30) = 70 transfer(1, 2, 50) = 20");
        says("NO_SUCH if there is no such client",
            two + "transfer(3, 1, 1) = NO_SUCH transfer(1, 3, 1) = NO_SUCH transfer(3, 4, 1) = NO_SUCH "
                + "transfer(3, 3, 1) = NO_SUCH transfer(0, 1, 1) = NO_SUCH transfer(1, 0, 1) = NO_SUCH "
                + "transfer(MIN, 1, 1) = NO_SUCH transfer(1, MAX, 1) = NO_SUCH close(2) transfer(1, 2, 1) = NO_SUCH "
                + "of(1, 0) = 100");
        says("BAD_VALUE if both are the same, or if amount is out of range",
            two + "transfer(1, 1, 1) = BAD_VALUE transfer(2, 2, 1) = BAD_VALUE transfer(1, 2, 0) = BAD_VALUE "
                + "transfer(1, 2, -1) = BAD_VALUE transfer(1, 2, MIN) = BAD_VALUE transfer(1, 2, MAX) = BAD_VALUE",
            "open(1) open(2) 2 * receive(1, MOST) transfer(1, 2, 100000001) = BAD_VALUE "
                + "transfer(1, 2, MOST) = 100000000");
        says("NOT_POSSIBLE if the free sum of the first client is less than the amount",
            two + "transfer(1, 2, 101) = NOT_POSSIBLE hold(1, 40, 9) transfer(1, 2, 61) = NOT_POSSIBLE "
                + "transfer(1, 2, 60) = 40 transfer(1, 2, 1) = NOT_POSSIBLE",
            two + "receive(2, 50) hold(2, 50, 9) transfer(2, 1, 1) = NOT_POSSIBLE transfer(1, 2, 100) = 0");
        says("LIMIT if the balance of the second client would be greater than 1000000000.",
            "open(1) open(2) " + FILL_1 + "receive(2, 100) transfer(2, 1, 1) = LIMIT pay(1, 60) "
                + "transfer(2, 1, 61) = LIMIT transfer(2, 1, 60) = 40 of(1, 0) = FULL transfer(2, 1, 1) = LIMIT "
                + "transfer(1, 2, 1) = 999999999");
    }

    static void hold() {
        section("Promise 9: hold");
        String one = "open(1) receive(1, 100) ";
        says("Holds a sum of a client. Undoable.",
            one + "hold(1, 30, 4) = 1 of(1, 0) = 100 of(1, 1) = 30 of(1, 2) = 70 of(1, 6) = 1 sum(1) = 30 "
                + "entries() = 1");
        undoes(one + "pass(2) hold(1, 5, 1) ", "hold(1, 30, 4)");
        says("`client`: a client",
            one + "hold(1, 1, 1) = 1 hold(2, 1, 1) = NO_SUCH open(99) receive(99, 5) hold(99, 1, 1) = 2");
        says("`amount`: 1 to 100000000",
            "open(1) 2 * receive(1, MOST) hold(1, 1, 1) = 1 hold(1, MOST, 1) = 2 hold(1, 0, 1) = BAD_VALUE "
                + "of(1, 1) = 100000001",
            "open(1) 2 * receive(1, MOST) hold(1, 100000001, 1) = BAD_VALUE");
        says("`days`: 1 to 999: the last day of the hold is the current day plus days",
            one + "hold(1, 1, 1) holdOf(1, 2) = 1 hold(1, 1, 999) holdOf(2, 2) = 999 hold(1, 1, 0) = BAD_VALUE "
                + "hold(1, 1, 1000) = BAD_VALUE pass(400) hold(1, 1, 1) = 3 holdOf(3, 2) = 401 hold(1, 1, 999) "
                + "holdOf(4, 2) = 1399",
            one + "hold(1, 60, 1) pass(1) of(1, 1) = 60 pass(1) of(1, 1) = 0",
            one + "hold(1, 60, 999) pass(400) pass(400) pass(199) of(1, 1) = 60 pass(1) of(1, 1) = 0");
        says("Returns the number of the hold",
            one + "hold(1, 1, 1) = 1 hold(1, 1, 1) = 2 release(2) hold(1, 1, 1) = 3 holdOf(3, 0) = 1");
        says("NO_SUCH if there is no such client",
            "hold(1, 1, 1) = NO_SUCH",
            one + "hold(0, 1, 1) = NO_SUCH hold(2, 1, 1) = NO_SUCH hold(MIN, 1, 1) = NO_SUCH hold(MAX, 1, 1) = NO_SUCH "
                + "hold(2, 0, 0) = NO_SUCH");
        says("BAD_VALUE if amount or days is out of range",
            one + "hold(1, 0, 1) = BAD_VALUE hold(1, -1, 1) = BAD_VALUE hold(1, MIN, 1) = BAD_VALUE "
                + "hold(1, MAX, 1) = BAD_VALUE",
            one + "hold(1, 1, 0) = BAD_VALUE hold(1, 1, -1) = BAD_VALUE hold(1, 1, 1000) = BAD_VALUE "
                + "hold(1, 1, MIN) = BAD_VALUE hold(1, 1, MAX) = BAD_VALUE of(1, 6) = 0",
            "open(1) 2 * receive(1, MOST) hold(1, 100000001, 1) = BAD_VALUE hold(1, MOST, 1) = 1");
        says("NOT_POSSIBLE if the free sum is less than the amount",
            one + "hold(1, 101, 1) = NOT_POSSIBLE hold(1, 60, 1) = 1 hold(1, 41, 1) = NOT_POSSIBLE hold(1, 40, 1) = 2 "
                + "hold(1, 1, 1) = NOT_POSSIBLE of(1, 6) = 2",
            "open(1) hold(1, 1, 1) = NOT_POSSIBLE");
        says("LIMIT if there are 15 holds.",
            one + "14 * hold(1, 1, 5) hold(1, 1, 6) = 15 hold(1, 1, 1) = LIMIT release(15) = 86 hold(1, 1, 1) = 16",
            one + "open(2) receive(2, 5) 15 * hold(1, 1, 5) hold(2, 1, 1) = LIMIT sum(1) = 15");
    }

    static void release() {
        section("Promise 10: release");
        String one = "open(1) receive(1, 100) ";
        says("Releases a hold. Undoable.",
            one + "hold(1, 30, 9) hold(1, 20, 9) hold(1, 10, 9) release(2) = 60 holdOf(2, 1) = NO_SUCH "
                + "holdOf(1, 1) = 30 holdOf(3, 1) = 10 of(1, 0) = 100 entries() = 1",
            one + "hold(1, 30, 9) hold(1, 20, 9) release(1) = 80 holdOf(2, 1) = 20 release(2) = 100 sum(1) = 0");
        undoes(one + "hold(1, 30, 9) hold(1, 20, 9) ", "release(1)");
        says("`hold`: number of the hold",
            one + "hold(1, 30, 9) release(0) = NO_SUCH release(2) = NO_SUCH release(1) = 100");
        says("Returns the free sum of its client then",
            one + "open(2) receive(2, 50) hold(1, 30, 9) hold(2, 50, 9) hold(1, 70, 9) release(1) = 30 release(2) = 50 "
                + "release(3) = 100",
            one + "hold(1, 99, 9) hold(1, 1, 9) of(1, 2) = 0 release(2) = 1");
        says("NO_SUCH if there is no such hold.",
            "release(1) = NO_SUCH",
            one + "hold(1, 30, 2) release(0) = NO_SUCH release(-1) = NO_SUCH release(2) = NO_SUCH "
                + "release(MIN) = NO_SUCH release(MAX) = NO_SUCH pass(2) release(1) = 100 release(1) = NO_SUCH",
            one + "hold(1, 30, 2) pass(3) release(1) = NO_SUCH");
    }

    static void bill() {
        section("Promise 11: bill");
        String one = "open(1) receive(1, 100) ";
        says("Writes a bill for a client. Undoable.",
            one + "open(2) bill(1, 30) = 1 billOf(1, 0) = 1 billOf(1, 1) = 30 billOf(1, 2) = 0 of(1, 4) = 30 "
                + "of(1, 7) = 1 of(2, 7) = 0 of(1, 0) = 100 of(1, 2) = 100 sum(2) = 0 entries() = 1");
        undoes(one + "bill(1, 5) ", "bill(1, 30)");
        says("`client`: a client", "open(1) open(99) bill(1, 1) = 1 bill(99, 1) = 2 bill(50, 1) = NO_SUCH");
        says("`amount`: 1 to 100000000",
            "open(1) bill(1, 1) = 1 bill(1, MOST) = 2 bill(1, 0) = BAD_VALUE bill(1, 100000001) = BAD_VALUE "
                + "of(1, 4) = 100000001");
        says("Returns the number of the bill",
            one + "bill(1, 1) = 1 bill(1, 1) = 2 settle(2) bill(1, 1) = 3 billOf(3, 0) = 1");
        says("NO_SUCH if there is no such client",
            "bill(1, 1) = NO_SUCH",
            "open(1) bill(0, 1) = NO_SUCH bill(2, 1) = NO_SUCH bill(MIN, 1) = NO_SUCH bill(MAX, 1) = NO_SUCH "
                + "bill(2, 0) = NO_SUCH close(1) bill(1, 1) = NO_SUCH");
        says("BAD_VALUE if amount is out of range",
            "open(1) bill(1, 0) = BAD_VALUE bill(1, -1) = BAD_VALUE bill(1, 100000001) = BAD_VALUE "
                + "bill(1, MIN) = BAD_VALUE bill(1, MAX) = BAD_VALUE of(1, 7) = 0");
        says("LIMIT if there are 15 open bills.",
            "open(1) open(2) 14 * bill(1, 9) bill(2, 9) = 15 bill(1, 9) = LIMIT bill(2, 9) = LIMIT of(1, 7) = 14 "
                + "receive(2, 8) settle(15) = 8 bill(2, 9) = LIMIT receive(2, 1) settle(15) = 1 bill(2, 9) = 16");
    }

    static void settle() {
        section("Promise 12: settle");
        String one = "open(1) receive(1, 100) ";
        says("Settles a bill as far as possible. Undoable.",
            one + "bill(1, 130) settle(1) = 100 billOf(1, 1) = 30 receive(1, 29) settle(1) = 29 billOf(1, 1) = 1 "
                + "billOf(1, 2) = 129 receive(1, 5) settle(1) = 1 billOf(1, 1) = NO_SUCH of(1, 0) = 4 sum(2) = 130 "
                + "entries() = 6",
            one + "bill(1, 20) bill(1, 30) bill(1, 40) settle(2) = 30 billOf(1, 1) = 20 billOf(3, 1) = 40 "
                + "settle(1) = 20 billOf(3, 1) = 40 settle(3) = 40");
        undoes(one + "bill(1, 130) ", "settle(1)");
        undoes(one + "bill(1, 30) bill(1, 20) ", "settle(1)");
        says("`bill`: number of the bill", one + "bill(1, 30) settle(0) = NO_SUCH settle(2) = NO_SUCH settle(1) = 30");
        says("Returns the amount that is taken",
            one + "bill(1, 99) settle(1) = 99", one + "bill(1, 100) settle(1) = 100",
            one + "bill(1, 101) settle(1) = 100",
            one + "hold(1, 99, 9) bill(1, 9) settle(1) = 1",
            "open(1) " + FILL_1 + "bill(1, MOST) settle(1) = 100000000 of(1, 0) = 900000000");
        says("NO_SUCH if there is no such open bill",
            "settle(1) = NO_SUCH",
            one + "bill(1, 30) settle(0) = NO_SUCH settle(-1) = NO_SUCH settle(2) = NO_SUCH settle(MIN) = NO_SUCH "
                + "settle(MAX) = NO_SUCH settle(1) = 30 settle(1) = NO_SUCH");
        says("NOT_POSSIBLE if the free sum of its client is 0.",
            "open(1) open(2) receive(2, 9) bill(1, 5) settle(1) = NOT_POSSIBLE receive(1, 1) settle(1) = 1 "
                + "settle(1) = NOT_POSSIBLE",
            one + "bill(1, 5) hold(1, 100, 2) settle(1) = NOT_POSSIBLE pass(2) settle(1) = NOT_POSSIBLE pass(1) "
                + "settle(1) = 5");
    }

    static void pass() {
        section("Promise 13: pass");
        String thirty = ONE_RATE + "receive(1, 10000) ";
        says("Lets days pass. Undoable.",
            "pass(3) day() = 3 pass(400) day() = 403",
            thirty + "hold(1, 1, 5) pass(29) = 0 of(1, 3) = 29 of(1, 6) = 0");
        undoes(thirty + "hold(1, 5, 20) ", "pass(60)");
        says("`days`: 1 to 400",
            "pass(1) = 0 day() = 1 pass(400) = 0 day() = 401 pass(0) = BAD_VALUE pass(401) = BAD_VALUE day() = 401");
        says("Returns the sum of the interest that is credited to all clients",
            "pass(400) = 0",
            thirty + "open(2) receive(2, 20000) pass(29) = 0 pass(1) = 90 pass(29) = 0",
            thirty + "open(2) receive(2, 20000) pass(390) = 1191 sum(3) = 1191 of(1, 0) = 10397 of(2, 0) = 20794");
        // twelve times 1000000000 are more than an int holds
        StringBuilder rich = new StringBuilder("setRates(FULL, 2000, 0) ");
        StringBuilder poor = new StringBuilder();
        for (int client = 1; client <= 12; client++) {
            rich.append("open(" + client + ") 10 * receive(" + client + ", MOST) ");
            poor.append("10 * pay(" + client + ", MOST) ");
        }
        run(rich + "4 * pass(400) pass(229) " + poor + "day() = 1829 pass(1) = 12000000000 sum(0) = 12000000000 "
            + "sum(3) = 12000000000");
        says("BAD_VALUE if days is out of range",
            "pass(0) = BAD_VALUE pass(-1) = BAD_VALUE pass(401) = BAD_VALUE pass(MIN) = BAD_VALUE "
                + "pass(MAX) = BAD_VALUE day() = 0");
        says("LIMIT if the day would be greater than 9999.",
            "24 * pass(400) pass(400) = LIMIT day() = 9600 pass(399) = 0 day() = 9999 pass(1) = LIMIT "
                + "pass(400) = LIMIT day() = 9999",
            "24 * pass(400) pass(398) pass(2) = LIMIT day() = 9998 pass(1) = 0");
    }

    static void reverse() {
        section("Promise 14: reverse");
        String two = "open(1) open(2) receive(1, 100) ";
        String three = "open(1) open(2) open(3) receive(1, 10) receive(2, 20) receive(3, 30) ";
        says("Reverses an entry. Undoable.",
            two + "reverse(1) = 2 of(1, 0) = 0 sum(4) = 0 entry(1, 6) = 1 entry(2, 6) = 0 entry(2, 1) = 6",
            two + "pay(1, 30) reverse(2) = 3 of(1, 0) = 100 sum(5) = 0 entry(1, 6) = 0 entry(2, 6) = 1",
            two + "transfer(1, 2, 30) reverse(2) = 3 of(1, 0) = 100 of(2, 0) = 0 sum(4) = 100 sum(5) = 0 "
                + "entry(2, 6) = 1",
            // nobody else gets or gives anything
            three + "reverse(1) of(1, 0) = 0 of(2, 0) = 20 of(3, 0) = 30",
            three + "reverse(2) of(1, 0) = 10 of(2, 0) = 0 of(3, 0) = 30",
            three + "reverse(3) of(1, 0) = 10 of(2, 0) = 20 of(3, 0) = 0",
            three + "pay(1, 5) reverse(4) of(1, 0) = 10 of(2, 0) = 20 of(3, 0) = 30",
            three + "pay(3, 5) reverse(4) of(1, 0) = 10 of(2, 0) = 20 of(3, 0) = 30",
            three + "transfer(1, 3, 5) reverse(4) of(1, 0) = 10 of(2, 0) = 20 of(3, 0) = 30",
            three + "transfer(3, 2, 5) reverse(4) of(1, 0) = 10 of(2, 0) = 20 of(3, 0) = 30");
        undoes(two + "pay(1, 5) ", "reverse(2)");
        undoes(two + "transfer(1, 2, 5) ", "reverse(2)");
        undoes(two, "reverse(1)");
        says("`entry`: number of the entry",
            two + "receive(1, 7) reverse(0) = NO_SUCH reverse(3) = NO_SUCH reverse(2) = 3 of(1, 0) = 100");
        says("Returns the number of the new entry",
            two + "pay(1, 1) pay(1, 2) reverse(3) = 4 reverse(2) = 5 entries() = 5 entry(5, 4) = 1");
        says("NO_SUCH if there is no such entry, or if it is not kept",
            "reverse(1) = NO_SUCH",
            two + "reverse(0) = NO_SUCH reverse(-1) = NO_SUCH reverse(2) = NO_SUCH reverse(MIN) = NO_SUCH "
                + "reverse(MAX) = NO_SUCH",
            "open(1) 24 * receive(1, 1) reverse(1) = 25",
            "open(1) 25 * receive(1, 1) reverse(1) = NO_SUCH reverse(2) = 26",
            "open(1) 49 * receive(1, 1) reverse(25) = NO_SUCH reverse(1) = NO_SUCH reverse(26) = 50 "
                + "reverse(26) = NO_SUCH");
    }

    static void reverseRefused() {
        String two = "open(1) open(2) receive(1, 100) ";
        says("NOT_POSSIBLE if it is of the kind 4, 5 or 6",
            two + "bill(1, 5) settle(1) reverse(2) = NOT_POSSIBLE",
            two + "pay(1, 5) reverse(2) reverse(3) = NOT_POSSIBLE",
            "open(1) setRates(FULL, 365, 0) receive(1, 10000) pass(30) entry(2, 1) = 5 reverse(2) = NOT_POSSIBLE "
                + "reverse(1) = 3");
        says("or was reversed",
            two + "receive(1, 900) reverse(1) reverse(1) = NOT_POSSIBLE of(1, 0) = 900",
            two + "pay(1, 5) reverse(2) reverse(2) = NOT_POSSIBLE of(1, 0) = 100",
            two + "transfer(1, 2, 5) reverse(2) receive(2, 50) reverse(2) = NOT_POSSIBLE of(2, 0) = 50");
        says("or if one of its clients has no account",
            two + "pay(1, 100) close(1) reverse(1) = NOT_POSSIBLE reverse(2) = NOT_POSSIBLE open(1) reverse(2) = 3 "
                + "reverse(1) = 4",
            two + "transfer(1, 2, 100) close(1) reverse(2) = NOT_POSSIBLE open(1) reverse(2) = 3 of(1, 0) = 100",
            two + "transfer(1, 2, 9) pay(2, 9) close(2) reverse(2) = NOT_POSSIBLE open(2) receive(2, 9) reverse(2) = 5 "
                + "of(2, 0) = 0",
            // a client that was opened again has an account, and what is on it decides
            two + "pay(1, 100) close(1) open(1) reverse(1) = NOT_POSSIBLE receive(1, 99) reverse(1) = NOT_POSSIBLE "
                + "receive(1, 1) reverse(1) = 5 of(1, 0) = 0 sum(4) = 100",
            two + "pay(1, 100) close(1) open(1) " + FILL_1 + "reverse(2) = LIMIT pay(1, MOST) reverse(2) = 14 "
                + "of(1, 0) = 900000100",
            two + "transfer(1, 2, 9) pay(1, 91) close(1) pay(2, 9) close(2) open(2) reverse(2) = NOT_POSSIBLE open(1) "
                + "reverse(2) = NOT_POSSIBLE receive(2, 9) reverse(2) = 6 of(1, 0) = 9 of(2, 0) = 0");
        says("or if the free sum of the client from which the amount would be moved is less than the amount",
            two + "pay(1, 1) reverse(1) = NOT_POSSIBLE receive(1, 1) reverse(1) = 4 of(1, 0) = 0",
            two + "receive(1, 5) hold(1, 6, 2) reverse(1) = NOT_POSSIBLE pass(2) reverse(1) = NOT_POSSIBLE pass(1) "
                + "reverse(1) = 3",
            two + "receive(1, 5) hold(1, 5, 9) reverse(1) = 3 of(1, 2) = 0",
            two + "transfer(1, 2, 60) pay(2, 1) reverse(2) = NOT_POSSIBLE receive(2, 1) hold(2, 1, 9) "
                + "reverse(2) = NOT_POSSIBLE release(1) reverse(2) = 5 of(1, 0) = 100",
            "open(1) open(2) receive(2, 90) transfer(2, 1, 60) pay(1, 1) reverse(2) = NOT_POSSIBLE receive(1, 1) "
                + "reverse(2) = 5 of(2, 0) = 90 of(1, 0) = 0",
            // what is held of the client who gets it back is no hindrance
            two + "pay(1, 60) hold(1, 40, 9) reverse(2) = 3 of(1, 2) = 60",
            two + "transfer(1, 2, 60) hold(1, 40, 9) reverse(2) = 3 of(1, 2) = 60");
        says("LIMIT if the balance of the client to which it would be moved would be greater than 1000000000.",
            "open(1) " + FILL_1 + "pay(1, 50) receive(1, 1) reverse(11) = LIMIT pay(1, 1) reverse(11) = 14 "
                + "of(1, 0) = FULL",
            "open(1) open(2) " + FILL_1 + "transfer(1, 2, 50) receive(1, 1) reverse(11) = LIMIT pay(1, 1) "
                + "reverse(11) = 14 of(1, 0) = FULL of(2, 0) = 0",
            "open(1) open(2) 10 * receive(2, MOST) pay(2, 50) receive(2, 1) reverse(11) = LIMIT pay(2, 1) "
                + "reverse(11) = 14 of(2, 0) = FULL",
            "open(1) open(2) 10 * receive(2, MOST) transfer(2, 1, 50) receive(2, 1) reverse(11) = LIMIT pay(2, 1) "
                + "reverse(11) = 14 of(2, 0) = FULL",
            "open(1) " + FILL_1 + "reverse(1) = 11 of(1, 0) = 900000000");
    }

    static void day() {
        section("Promise 15: day");
        says("Returns the current day.",
            "day() = 0 pass(1) day() = 1 pass(400) day() = 401 pass(0) = BAD_VALUE day() = 401 undo() day() = 1",
            TO_THE_END + "day() = 9999");
    }

    static void clients() {
        section("Promise 16: clients");
        says("Returns the number of clients.",
            "clients() = 0 open(5) clients() = 1 open(5) = NOT_POSSIBLE clients() = 1 open(6) clients() = 2 close(5) "
                + "clients() = 1 undo() clients() = 2 close(5) close(6) clients() = 0",
            times(1, 12, "open(#)") + "clients() = 12 open(13) = LIMIT clients() = 12");
    }

    // The clients of one order, from the first rank to the last one.
    static String ranks(int order, int... clients) {
        StringBuilder run = new StringBuilder();
        for (int rank = 0; rank < clients.length; rank++) {
            run.append("ranked(" + order + ", " + rank + ") = " + clients[rank] + " ");
        }
        return run + "ranked(" + order + ", " + clients.length + ") = NO_SUCH ranked(" + order + ", -1) = NO_SUCH ";
    }

    static void ranked() {
        section("Promise 17: ranked");
        String three = "open(9) open(4) open(6) receive(9, 50) receive(4, 70) receive(6, 60) ";
        says("Returns a client by its rank.",
            three + ranks(0, 4, 6, 9) + ranks(1, 4, 6, 9) + ranks(2, 9, 6, 4) + ranks(3, 4, 6, 9));
        says("`order`: 0 by ascending numbers",
            three + ranks(0, 4, 6, 9) + "open(99) open(1) " + ranks(0, 1, 4, 6, 9, 99),
            "open(12) open(7) open(9) open(1) open(5) open(3) open(8) open(10) open(2) open(11) open(4) open(6) "
                + ranks(0, 1, 2, 3, 4, 5, 6, 7, 8, 9, 10, 11, 12));
        says("1 the greatest balance first",
            three + ranks(1, 4, 6, 9) + "pay(4, 15) " + ranks(1, 6, 4, 9) + "receive(9, 11) " + ranks(1, 9, 6, 4)
                + "hold(9, 61, 9) " + ranks(1, 9, 6, 4),
            "open(1) open(2) 9 * receive(2, MOST) receive(2, 99999999) 10 * receive(1, MOST) open(3) "
                + ranks(1, 1, 2, 3)
                + "pay(1, 2) " + ranks(1, 2, 1, 3));
        says("2 the least free sum first",
            three + ranks(2, 9, 6, 4) + "hold(4, 21, 2) " + ranks(2, 4, 9, 6) + "hold(6, 60, 9) " + ranks(2, 6, 4, 9)
                + "pass(3) "
                + ranks(2, 6, 9, 4));
        says("3 the earliest latest movement first.",
            "open(9) pass(1) open(4) pass(1) open(6) " + ranks(3, 9, 4, 6) + "receive(9, 5) " + ranks(3, 4, 6, 9)
                + "pass(1) receive(4, 5) " + ranks(3, 6, 9, 4));
        says("Equal ones by ascending numbers.",
            "open(9) open(4) open(6) open(5) " + ranks(0, 4, 5, 6, 9) + ranks(1, 4, 5, 6, 9) + ranks(2, 4, 5, 6, 9)
                + ranks(3, 4, 5, 6, 9),
            "open(9) receive(9, 5) open(4) receive(4, 5) open(6) receive(6, 4) open(7) receive(7, 4) "
                + ranks(1, 4, 9, 6, 7)
                + ranks(2, 6, 7, 4, 9),
            "open(9) open(4) pass(1) open(8) open(3) " + ranks(3, 4, 9, 3, 8));
        says("A movement is an entry of the trail, whether it is still kept or not, in which a client is the client or "
            + "the second client; the day on which its account was opened counts as one, too",
            "pass(3) open(1) of(1, 5) = 3 pass(2) of(1, 5) = 3 receive(1, 500) of(1, 5) = 5 pass(1) pay(1, 5) "
                + "of(1, 5) = 6",
            "open(1) open(2) open(3) receive(1, 500) pass(5) transfer(1, 3, 5) of(1, 5) = 5 of(3, 5) = 5 of(2, 5) = 0 "
                + ranks(3, 2, 1, 3) + "pass(1) reverse(2) of(1, 5) = 6 of(3, 5) = 6 of(2, 5) = 0 " + ranks(3, 2, 1, 3),
            "open(1) open(2) receive(1, 500) bill(1, 5) pass(1) hold(1, 1, 9) release(1) bill(1, 6) of(1, 5) = 0 "
                + "settle(1) of(1, 5) = 1 pass(1) reverse(1) = NOT_POSSIBLE of(1, 5) = 1",
            "open(1) open(2) setRates(FULL, 365, 0) receive(1, 10000) receive(2, 100) pass(31) of(1, 5) = 30 "
                + "of(2, 5) = 0",
            // the entry of the client 1 is not kept any more
            "open(1) open(2) pass(4) receive(1, 5) pass(4) 24 * receive(2, 1) entry(1, 0) = NO_SUCH of(1, 5) = 4 "
                + ranks(3, 1, 2),
            "open(1) receive(1, 5) pass(4) pay(1, 5) pass(2) close(1) open(1) of(1, 5) = 6 pass(1) reverse(2) "
                + "of(1, 5) = 7",
            "open(1) pass(7) open(2) " + ranks(3, 1, 2) + "close(1) open(1) " + ranks(3, 1, 2)
                + "pass(1) close(1) open(1) " + ranks(3, 2, 1));
        says("`rank`: 0 for the first client",
            three + "ranked(0, 0) = 4 ranked(0, 2) = 9 ranked(0, 3) = NO_SUCH ranked(0, -1) = NO_SUCH");
        says("Returns the client", "open(99) ranked(0, 0) = 99 ranked(1, 0) = 99 ranked(2, 0) = 99 ranked(3, 0) = 99");
        says("BAD_VALUE if order is out of range",
            three + "ranked(-1, 0) = BAD_VALUE ranked(4, 0) = BAD_VALUE ranked(MIN, 0) = BAD_VALUE "
                + "ranked(MAX, 0) = BAD_VALUE ranked(0, 0) = 4 ranked(3, 0) = 4",
            "ranked(4, 0) = BAD_VALUE ranked(-1, 0) = BAD_VALUE");
        says("NO_SUCH if there are not so many.",
            "ranked(0, 0) = NO_SUCH ranked(1, 0) = NO_SUCH ranked(2, 0) = NO_SUCH ranked(3, 0) = NO_SUCH",
            three + "ranked(0, 3) = NO_SUCH ranked(1, 3) = NO_SUCH ranked(2, 3) = NO_SUCH ranked(3, 3) = NO_SUCH "
                + "ranked(1, 2) = 9 ranked(0, MIN) = NO_SUCH ranked(3, MAX) = NO_SUCH close(9) = NOT_POSSIBLE "
                + "pay(9, 50) close(9) ranked(0, 2) = NO_SUCH",
            times(1, 12, "open(#)") + "ranked(0, 11) = 12 ranked(0, 12) = NO_SUCH ranked(2, 12) = NO_SUCH");
    }

    static void of() {
        section("Promise 18: of");
        String base = "open(4) open(6) receive(4, 100) receive(6, 90) ";
        says("Returns something about a client.", base + "of(4, 0) = 100 of(6, 0) = 90 of(4, 2) = 100 of(6, 2) = 90");
        says("`client`: a client",
            "open(1) open(99) of(1, 0) = 0 of(99, 0) = 0 of(0, 0) = NO_SUCH of(100, 0) = NO_SUCH of(50, 0) = NO_SUCH");
        says("`what`: 0 for its balance", base + "hold(4, 30, 9) of(4, 0) = 100 pay(4, 70) of(4, 0) = 30 of(6, 0) = 90",
            "open(1) " + FILL_1 + "of(1, 0) = FULL");
        says("1 for its held sum",
            base + "of(4, 1) = 0 hold(4, 30, 9) hold(6, 5, 9) hold(4, 70, 9) of(4, 1) = 100 of(6, 1) = 5",
            "open(1) " + FILL_1 + "10 * hold(1, MOST, 9) of(1, 1) = FULL of(1, 2) = 0");
        says("2 for its free sum", base + "hold(4, 30, 9) of(4, 2) = 70 hold(4, 70, 9) of(4, 2) = 0 of(6, 2) = 90");
        String full = "open(1) setRates(0, 0, 2000) " + FILL_1 + "4 * pass(400) ";
        says("3 for the interest that its count would give (count / 3650000, but at most 1000000000)",
            // 2000 days of a full account give 1095890410
            full + "pass(224) of(1, 3) = 999452054", full + "pass(225) of(1, 3) = FULL",
            full + "pass(226) of(1, 3) = FULL",
            full + "20 * pass(400) of(1, 3) = FULL",
            ONE_RATE + "setThreshold(10000) receive(1, 9999) pass(1) of(1, 3) = 0",
            ONE_RATE + "receive(1, 10000) pass(1) of(1, 3) = 1",
            ONE_RATE + "setThreshold(10000) receive(1, 10000) pass(45) of(1, 3) = 45 of(1, 0) = 10000");
        says("4 for what is still to be paid of its open bills",
            base + "of(4, 4) = 0 bill(4, 80) bill(6, 7) bill(4, 50) of(4, 4) = 130 settle(1) of(4, 4) = 50 "
                + "settle(3) = 20 of(4, 4) = 30 of(6, 4) = 7", "open(1) 15 * bill(1, MOST) of(1, 4) = 1500000000");
        says("5 for the day of its latest movement",
            "pass(2) open(4) of(4, 5) = 2 pass(1) receive(4, 9) of(4, 5) = 3 pass(1) hold(4, 1, 1) of(4, 5) = 3",
            TO_THE_END + "open(1) of(1, 5) = 9999");
        says("6 for the number of its holds",
            base + "of(4, 6) = 0 hold(4, 1, 2) hold(6, 1, 9) hold(4, 1, 3) of(4, 6) = 2 of(6, 6) = 1 pass(3) "
                + "of(4, 6) = 1 release(3) of(4, 6) = 0", base + "15 * hold(4, 1, 9) of(4, 6) = 15 of(6, 6) = 0");
        says("7 for the number of its open bills",
            base + "of(4, 7) = 0 bill(4, 100) bill(6, 9) bill(4, 1) of(4, 7) = 2 of(6, 7) = 1 settle(1) of(4, 7) = 1 "
                + "settle(3) = NOT_POSSIBLE of(4, 7) = 1", base + "15 * bill(4, 1) of(4, 7) = 15 of(6, 7) = 0");
        says("Returns the number",
            base + "bill(4, 7) hold(4, 9, 9) hold(4, 8, 9) of(4, 0) = 100 of(4, 1) = 17 of(4, 2) = 83 of(4, 3) = 0 "
                + "of(4, 4) = 7 of(4, 5) = 0 of(4, 6) = 2 of(4, 7) = 1");
        says("NO_SUCH if there is no such client",
            "of(1, 0) = NO_SUCH",
            base + times(0, 8, "of(5, #) = NO_SUCH") + "of(0, 0) = NO_SUCH of(MIN, 0) = NO_SUCH of(MAX, 0) = NO_SUCH",
            "open(1) close(1) of(1, 0) = NO_SUCH");
        says("BAD_VALUE if what is out of range.",
            base + "of(4, -1) = BAD_VALUE of(4, 8) = BAD_VALUE of(4, MIN) = BAD_VALUE of(4, MAX) = BAD_VALUE "
                + "of(4, 0) = 100 of(4, 7) = 0");
    }

    static void holdOf() {
        section("Promise 19: holdOf");
        String held = "open(4) open(6) receive(4, 100) receive(6, 90) pass(2) hold(6, 40, 3) hold(4, 50, 4) ";
        says("Returns something about a hold.",
            held + "holdOf(1, 1) = 40 holdOf(2, 1) = 50 release(1) holdOf(2, 1) = 50");
        says("`hold`: number of the hold",
            held + "holdOf(0, 0) = NO_SUCH holdOf(1, 0) = 6 holdOf(2, 0) = 4 holdOf(3, 0) = NO_SUCH");
        says("`what`: 0 for its client, 1 for its amount, 2 for its last day",
            held + "holdOf(1, 0) = 6 holdOf(1, 1) = 40 holdOf(1, 2) = 5 holdOf(2, 0) = 4 holdOf(2, 1) = 50 "
                + "holdOf(2, 2) = 6 holdOf(1, -1) = BAD_VALUE holdOf(1, 3) = BAD_VALUE");
        says("Returns the number", held + "pass(3) holdOf(1, 0) = 6 holdOf(1, 1) = 40 holdOf(1, 2) = 5");
        says("NO_SUCH if there is no such hold",
            "holdOf(1, 0) = NO_SUCH holdOf(0, 0) = NO_SUCH",
            held + "holdOf(0, 0) = NO_SUCH holdOf(3, 0) = NO_SUCH holdOf(-1, 0) = NO_SUCH holdOf(MIN, 0) = NO_SUCH "
                + "holdOf(MAX, 0) = NO_SUCH pass(4) holdOf(1, 0) = NO_SUCH release(2) holdOf(2, 0) = NO_SUCH");
        says("BAD_VALUE if what is out of range.",
            held + "holdOf(2, -1) = BAD_VALUE holdOf(2, 3) = BAD_VALUE holdOf(2, MIN) = BAD_VALUE "
                + "holdOf(2, MAX) = BAD_VALUE");
    }

    static void billOf() {
        section("Promise 20: billOf");
        String billed = "open(4) open(6) receive(4, 100) receive(6, 90) bill(6, 91) bill(4, 50) settle(1) ";
        says("Returns something about an open bill.",
            billed + "billOf(1, 0) = 6 billOf(2, 0) = 4 billOf(1, 1) = 1 billOf(2, 1) = 50");
        says("`bill`: number of the bill",
            billed + "billOf(0, 0) = NO_SUCH billOf(1, 0) = 6 billOf(2, 0) = 4 billOf(3, 0) = NO_SUCH");
        says("`what`: 0 for its client, 1 for what is still to be paid, 2 for what is paid",
            billed + "billOf(1, 0) = 6 billOf(1, 1) = 1 billOf(1, 2) = 90 billOf(2, 0) = 4 billOf(2, 1) = 50 "
                + "billOf(2, 2) = 0 billOf(1, -1) = BAD_VALUE billOf(1, 3) = BAD_VALUE");
        says("Returns the number",
            "open(1) bill(1, MOST) billOf(1, 1) = 100000000 receive(1, 99999999) settle(1) billOf(1, 1) = 1 "
                + "billOf(1, 2) = 99999999 billOf(1, 0) = 1");
        says("NO_SUCH if there is no such open bill",
            "billOf(1, 0) = NO_SUCH billOf(0, 0) = NO_SUCH",
            billed + "billOf(0, 0) = NO_SUCH billOf(3, 0) = NO_SUCH billOf(-1, 0) = NO_SUCH billOf(MIN, 0) = NO_SUCH "
                + "billOf(MAX, 0) = NO_SUCH settle(2) billOf(2, 0) = NO_SUCH billOf(2, 2) = NO_SUCH billOf(1, 0) = 6");
        says("BAD_VALUE if what is out of range.",
            billed + "billOf(2, -1) = BAD_VALUE billOf(2, 3) = BAD_VALUE billOf(2, MIN) = BAD_VALUE "
                + "billOf(2, MAX) = BAD_VALUE");
    }

    static void entries() {
        section("Promise 21: entries");
        says("Returns the number of entries that were made so far.",
            "entries() = 0 open(1) entries() = 0 receive(1, 5) entries() = 1 receive(1, 0) = BAD_VALUE entries() = 1 "
                + "undo() entries() = 0",
            "open(1) 24 * receive(1, 1) entries() = 24 receive(1, 1) entries() = 25 25 * receive(1, 1) entries() = 50");
    }

    static void entry() {
        section("Promise 22: entry");
        String made = "open(4) open(6) pass(2) receive(4, 100) pass(1) transfer(4, 6, 30) pass(1) reverse(2) ";
        says("Returns something about an entry.", made + "entry(1, 4) = 100 entry(2, 4) = 30 entry(3, 1) = 6");
        says("`entry`: number of the entry",
            made + "entry(0, 0) = NO_SUCH entry(1, 0) = 2 entry(3, 0) = 4 entry(4, 0) = NO_SUCH");
        says("`what`: 0 for its day, 1 for its kind, 2 for its client, 3 for its second client, 4 for its amount, 5 "
            + "for its check number, 6 for whether it was reversed (1 or 0)",
            // 7 * 1009 + 2 * 31 + 17 + 4 * 101 + 100
            made + "entry(1, 0) = 2 entry(1, 1) = 1 entry(1, 2) = 4 entry(1, 3) = 0 entry(1, 4) = 100 "
                + "entry(1, 5) = 7646 entry(1, 6) = 0",
            made + "entry(2, 0) = 3 entry(2, 1) = 3 entry(2, 2) = 4 entry(2, 3) = 6 entry(2, 4) = 30 entry(2, 6) = 1",
            made + "entry(3, 0) = 4 entry(3, 1) = 6 entry(3, 2) = 4 entry(3, 3) = 6 entry(3, 4) = 30 entry(3, 6) = 0",
            made + "entry(1, -1) = BAD_VALUE entry(1, 7) = BAD_VALUE");
        chain(made);
        says("Returns the number",
            "open(99) receive(99, MOST) entry(1, 0) = 0 entry(1, 1) = 1 entry(1, 2) = 99 entry(1, 4) = 100000000");
        says("NO_SUCH if there is no such entry, or if it is not kept",
            "entry(0, 5) = NO_SUCH entry(1, 0) = NO_SUCH",
            made + "entry(0, 0) = NO_SUCH entry(4, 0) = NO_SUCH entry(-1, 0) = NO_SUCH entry(-23, 0) = NO_SUCH "
                + "entry(MIN, 0) = NO_SUCH entry(MAX, 0) = NO_SUCH",
            "open(1) 24 * receive(1, 1) entry(1, 4) = 1 entry(25, 4) = NO_SUCH receive(1, 1) entry(1, 4) = NO_SUCH "
                + "entry(2, 4) = 1 entry(25, 4) = 1 entry(26, 4) = NO_SUCH");
        says("BAD_VALUE if what is out of range.",
            made + "entry(3, -1) = BAD_VALUE entry(3, 7) = BAD_VALUE entry(3, MIN) = BAD_VALUE "
                + "entry(3, MAX) = BAD_VALUE");
    }

    static void sum() {
        section("Promise 23: sum");
        says("Returns a sum.", times(0, 5, "sum(#) = 0"),
            "open(1) receive(1, 5) sum(0) = 5 sum(4) = 5 undo() sum(0) = 0 sum(4) = 0");
        says("`what`: 0 for all balances",
            "open(1) open(2) receive(1, 50) receive(2, 7) sum(0) = 57 hold(1, 9, 9) sum(0) = 57 transfer(1, 2, 9) "
                + "sum(0) = 57 pay(2, 16) sum(0) = 41 close(2) sum(0) = 41 bill(1, 1) sum(0) = 41 settle(1) "
                + "sum(0) = 40");
        says("1 for all held sums",
            "open(1) open(2) receive(1, 50) receive(2, 7) sum(1) = 0 hold(1, 9, 2) hold(2, 7, 9) hold(1, 1, 9) "
                + "sum(1) = 17 release(3) sum(1) = 16 pass(2) sum(1) = 16 pass(1) sum(1) = 7");
        says("2 for the office account",
            "open(1) open(2) receive(1, 50) receive(2, 7) bill(1, 30) bill(2, 9) sum(2) = 0 settle(1) sum(2) = 30 "
                + "settle(2) sum(2) = 37 pay(1, 20) close(1) sum(2) = 37");
        says("3 for all interest that was credited",
            ONE_RATE + "open(2) receive(1, 10000) receive(2, 20000) pass(29) sum(3) = 0 pass(1) sum(3) = 90 pass(30) "
                + "sum(3) = 180 pay(1, 10060) close(1) sum(3) = 180 sum(4) = 30000");
        says("4 for all receipts",
            "open(1) open(2) receive(1, 50) receive(2, 7) sum(4) = 57 pay(1, 9) transfer(1, 2, 3) sum(4) = 57 "
                + "pay(2, 10) close(2) sum(4) = 57");
        says("5 for all payments",
            "open(1) open(2) receive(1, 50) receive(2, 7) sum(5) = 0 pay(1, 9) pay(2, 4) sum(5) = 13 bill(1, 5) "
                + "settle(1) transfer(1, 2, 3) sum(5) = 13 pay(2, 6) close(2) sum(5) = 19");
        says("where reversals count as negative receipts and payments",
            "open(1) open(2) receive(1, 50) receive(1, 7) reverse(2) sum(4) = 50 sum(5) = 0 pay(1, 9) pay(1, 3) "
                + "reverse(4) sum(5) = 3 sum(4) = 50 transfer(1, 2, 6) reverse(7) sum(4) = 50 sum(5) = 3 reverse(5) "
                + "sum(5) = 0 reverse(1) sum(4) = 0");
        says("Returns the sum",
            "open(1) open(2) open(3) 10 * receive(1, MOST) 10 * receive(2, MOST) 10 * receive(3, MOST) "
                + "sum(0) = 3000000000 sum(4) = 3000000000 10 * hold(1, MOST, 9) 5 * hold(2, MOST, 9) "
                + "sum(1) = 1500000000",
            "open(1) " + "receive(1, MOST) pay(1, MOST) ".repeat(22) + "sum(4) = 2200000000 sum(5) = 2200000000 "
                + "sum(0) = 0",
            "open(1) " + times(1, 22, "receive(1, MOST) bill(1, MOST) settle(#)") + "sum(2) = 2200000000 sum(5) = 0");
        says("BAD_VALUE if what is out of range.",
            "sum(-1) = BAD_VALUE sum(6) = BAD_VALUE sum(MIN) = BAD_VALUE sum(MAX) = BAD_VALUE");
    }

    static void payableOn() {
        section("Promise 24: payableOn");
        String still = "open(1) setRates(0, 0, 0) pass(4) receive(1, 100) ";
        says("Finds the first day on which the free sum of a client would be at least an amount, if only days pass.",
            still + "payableOn(1, 99) = 4 payableOn(1, 100) = 4 payableOn(1, 101) = NONE",
            still + "hold(1, 30, 5) hold(1, 20, 3) payableOn(1, 50) = 4 payableOn(1, 51) = 8 payableOn(1, 70) = 8 "
                + "payableOn(1, 71) = 10 payableOn(1, 100) = 10 pass(3) payableOn(1, 51) = 8 pass(1) "
                + "payableOn(1, 51) = 8 payableOn(1, 71) = 10",
            // the other client's holds and bills, and bills of one's own, do not matter
            still + "open(2) receive(2, 9) hold(2, 9, 9) bill(1, 90) payableOn(1, 100) = 4 payableOn(2, 1) = 14",
            ONE_RATE + "receive(1, 10000) pass(10) payableOn(1, 10000) = 10 payableOn(1, 10001) = 30 "
                + "payableOn(1, 10030) = 30 payableOn(1, 10031) = 60 payableOn(1, 10397) = 390 "
                + "payableOn(1, 10398) = NONE",
            ONE_RATE + "receive(1, 10000) setThreshold(31) payableOn(1, 10001) = 60",
            ONE_RATE + "receive(1, 10000) hold(1, 10000, 29) payableOn(1, 1) = 30 payableOn(1, 10030) = 30",
            ONE_RATE + "receive(1, 10000) hold(1, 10000, 30) payableOn(1, 30) = 30 payableOn(1, 31) = 31 "
                + "payableOn(1, 10030) = 31");
        says("`client`: a client",
            still + "payableOn(1, 1) = 4 payableOn(2, 1) = NO_SUCH open(99) payableOn(99, 1) = NONE");
        says("`amount`: 1 to 100000000",
            "open(1) receive(1, MOST) payableOn(1, 1) = 0 payableOn(1, MOST) = 0 payableOn(1, 0) = BAD_VALUE",
            "open(1) 2 * receive(1, MOST) payableOn(1, 100000001) = BAD_VALUE");
        String later = "setThreshold(10000) setRates(FULL, 365, 0) open(1) receive(1, 250000) ";
        says("Returns the day, from the current day to 400 days later",
            still + "hold(1, 1, 399) payableOn(1, 99) = 4 payableOn(1, 100) = 404",
            still + "hold(1, 1, 400) payableOn(1, 100) = NONE pass(1) payableOn(1, 100) = 405",
            // the threshold is reached after 400 days, on day 420
            "pass(20) " + later + "payableOn(1, 250000) = 20 payableOn(1, 250001) = 420 payableOn(1, 260000) = 420 "
                + "payableOn(1, 260001) = NONE",
            "pass(19) " + later + "payableOn(1, 250001) = NONE pass(1) payableOn(1, 250001) = 420 "
                + "payableOn(1, 260025) = 420");
        says("NO_SUCH if there is no such client",
            "payableOn(1, 1) = NO_SUCH",
            still + "payableOn(0, 1) = NO_SUCH payableOn(2, 1) = NO_SUCH payableOn(MIN, 1) = NO_SUCH "
                + "payableOn(MAX, 1) = NO_SUCH");
        says("BAD_VALUE if amount is out of range",
            still + "payableOn(1, 0) = BAD_VALUE payableOn(1, -1) = BAD_VALUE payableOn(1, 100000001) = BAD_VALUE "
                + "payableOn(1, MIN) = BAD_VALUE payableOn(1, MAX) = BAD_VALUE");
        says("NONE if there is none among these days.",
            "open(1) payableOn(1, 1) = NONE receive(1, 1) payableOn(1, 1) = 0 payableOn(1, 2) = NONE "
                + "payableOn(1, MOST) = NONE",
            still + "hold(1, 100, 400) payableOn(1, 1) = NONE");
    }

    static void interestIn() {
        section("Promise 25: interestIn");
        String thirty = ONE_RATE + "receive(1, 10000) ";
        says("Returns the interest that would be credited to a client if days passed.",
            thirty + "interestIn(1, 29) = 0 interestIn(1, 30) = 30 interestIn(1, 59) = 30 interestIn(1, 60) = 60 "
                + "interestIn(1, 389) = 365 interestIn(1, 390) = 397 interestIn(1, 400) = 397",
            thirty + "open(2) receive(2, 20000) pass(10) interestIn(1, 19) = 0 interestIn(1, 20) = 30 "
                + "interestIn(2, 20) = 60 interestIn(2, 380) = 794 pass(380) = 1191",
            thirty + "setThreshold(31) interestIn(1, 30) = 0 interestIn(1, 60) = 60 pass(30) = 0 interestIn(1, 29) = 0 "
                + "interestIn(1, 30) = 60",
            thirty + "pass(30) interestIn(1, 29) = 0 interestIn(1, 30) = 30",
            "open(1) setRates(FULL, 2000, 0) " + FILL_1 + "pay(1, 25) interestIn(1, 30) = 25 interestIn(1, 400) = 25 "
                + "pay(1, 1) setThreshold(27) interestIn(1, 400) = 0");
        says("`client`: a client",
            thirty + "interestIn(1, 30) = 30 interestIn(2, 30) = NO_SUCH open(99) interestIn(99, 30) = 0");
        says("`days`: 1 to 400",
            thirty + "pass(20) interestIn(1, 400) = 428 interestIn(1, 399) = 397 interestIn(1, 401) = BAD_VALUE",
            thirty + "pass(29) interestIn(1, 1) = 30 interestIn(1, 0) = BAD_VALUE");
        says("Returns the sum", thirty + "interestIn(1, 90) = 90 interestIn(1, 180) = 181 pass(180) = 181",
            "open(1) setRates(FULL, 2000, 0) 10 * receive(1, MOST) 5 * pass(400) 10 * pay(1, MOST) day() = 2000 "
                + "interestIn(1, 9) = 0 interestIn(1, 10) = FULL interestIn(1, 400) = FULL");
        says("NO_SUCH if there is no such client",
            "interestIn(1, 1) = NO_SUCH",
            thirty + "interestIn(0, 1) = NO_SUCH interestIn(2, 1) = NO_SUCH interestIn(MIN, 1) = NO_SUCH "
                + "interestIn(MAX, 1) = NO_SUCH");
        says("BAD_VALUE if days is out of range.",
            thirty + "interestIn(1, 0) = BAD_VALUE interestIn(1, -1) = BAD_VALUE interestIn(1, 401) = BAD_VALUE "
                + "interestIn(1, MIN) = BAD_VALUE interestIn(1, MAX) = BAD_VALUE");
    }

    static void type() {
        section("Promise 26: type");
        says("Appends a character to the text.",
            "type(100) = 1 type(51) = 2 carryOut() = 1 day() = 3",
            "type(100) type(49) type(50) carryOut() = 1 day() = 12");
        says("`code`: character code, 33 to 126",
            times(33, 79, "type(#)") + "clearText() = 47 " + times(80, 126, "type(#)") + "clearText() = 47",
            "type(33) = 1 type(126) = 2 type(32) = BAD_VALUE type(127) = BAD_VALUE clearText() = 2");
        says("Returns the new length of the text", times(1, 80, "type(33) = #") + "clearText() = 80 type(126) = 1");
        says("BAD_VALUE if code is out of range",
            "type(115) type(32) = BAD_VALUE type(127) = BAD_VALUE type(0) = BAD_VALUE type(10) = BAD_VALUE "
                + "type(128) = BAD_VALUE type(-1) = BAD_VALUE type(MIN) = BAD_VALUE type(MAX) = BAD_VALUE "
                + "type(65585) = BAD_VALUE type(305) = BAD_VALUE clearText() = 1");
        says("LIMIT if the text has 80 characters.",
            "write(" + DAYS_80.substring(1) + ") = 79 type(59) = 80 type(59) = LIMIT type(33) = LIMIT type(126) = "
                + "LIMIT clearText() = 80");
    }

    static void clearText() {
        section("Promise 27: clearText");
        says("Makes the text empty.",
            "write(d1) clearText() = 2 syntaxError() = 0 carryOut() = BAD_TEXT write(d2) carryOut() = 1 day() = 2");
        says("Returns the previous length of the text.",
            "clearText() = 0 type(33) clearText() = 1 clearText() = 0 write(" + DAYS_80
                + ") clearText() = 80 clearText() = 0");
    }

    static void syntaxError() {
        section("Promise 28: syntaxError");
        says("Finds the first syntax error of the text.",
            "type(120) syntaxError() = 0 type(120) syntaxError() = 0",
            "write(s1) syntaxError() = NONE type(58) syntaxError() = 2 type(58) syntaxError() = 2 clearText() = 4 "
                + "type(114) syntaxError() = 1");
        says("Returns the index of the first character for which no order list, of any length, begins with the "
            + "characters of the text up to and including this one");
        broken("|x;x", "s1;|x;x", "r|:1", "r1:|;", "r1:2|:3", "t1>2|;3:4", "s1;r1:2;t1>2|;xx", "r123456|78:1",
            DAYS_80.substring(0, 79) + "|x", "d1;" + DAYS_80.substring(0, 75) + "s|;");
        goOn("", LETTERS);
        for (String order : new String[] {"r1:2", "p1:2", "t1>2:3", "b1:2", "s1", "d1"}) {
            goOn(order + ";", LETTERS);
            for (int i = 1; i <= order.length(); i++) {
                String begun = order.substring(0, i);
                String sign = order.length() == i ? ";" : order.substring(i, i + 1);
                boolean number = Character.isDigit(begun.charAt(i - 1));
                goOn(begun, number ? DIGITS + sign : DIGITS);
                if (number) {
                    goOn(begun + "0000", DIGITS + sign);
                    goOn(begun + "00000", sign);
                }
            }
        }
        says("the length of the text if there is no such character but the text is not an order list (this holds for "
            + "the empty text)",
            "syntaxError() = 0", "write(s1) clearText() syntaxError() = 0", "write(s1) carryOut() syntaxError() = 0");
        // the last two could only go on beyond 80 characters
        unfinished("r", "t1>2", "r1:2;", "p1:2;", "t1>2:3;", "b1:2;", "s1;", "d1;", "r1:2;p", "d123456;d",
            DAYS_80.substring(0, 78), DAYS_80.substring(0, 79),
            DAYS_80.substring(0, 78) + "s",
            DAYS_80.substring(0, 78) + "r1", "d11;" + DAYS_80.substring(0, 75) + "d");
        says("NONE if the text is an order list.");
        whole("r1:2", "p1:2", "t1>2:3", "b1:2", "s1", "d1", "d1;d1", DAYS_80,
            "t123456>123456:123456;r000000:000000;p999999:0", "s0", "t1>1:0");
    }

    static void carryOut() {
        section("Promise 29: carryOut");
        String two = "open(1) open(2) receive(1, 100) ";
        says("Carries out the orders of the text from left to right, up to the first one whose method (receive, pay, "
            + "transfer, bill, settle or pass) would return an error code.",
            two + "write(p1:40;t1>2:60;r1:5;b2:9;s1;d3) carryOut() = 6 of(1, 0) = 5 of(2, 0) = 51 sum(2) = 9 day() = 3 "
                + "entry(2, 1) = 2 entry(3, 1) = 3 entry(4, 1) = 1 entry(5, 1) = 4",
            two + "write(d1;r2:5;d1;r2:6) carryOut() = 4 entry(2, 0) = 1 entry(3, 0) = 2",
            "write(" + DAYS_80 + ") carryOut() = 27 day() = 27");
        String[] stops = {"r3:1", "r1:0", "r100:1", "p3:1", "p1:0", "p1:106", "t1>3:1", "t3>1:1", "t1>1:1", "t1>2:0",
        "t1>2:106", "b3:1", "b1:0",
            "s1", "s0", "d0", "d401", "d999999"};
        for (String stop : stops) {
            run(two + "write(" + stop + ") carryOut() = 0 of(1, 0) = 100 entries() = 1 day() = 0");
            run(two + "write(r1:5;" + stop + ";r1:7;d9) carryOut() = 1 of(1, 0) = 105 entries() = 2 day() = 0");
            run(two + "write(r1:5;r2:6;" + stop + ") carryOut() = 2 of(1, 0) = 105 of(2, 0) = 6 entries() = 3 day() = "
                + "0");
        }
        run("open(1) " + FILL_1 + "write(r1:1;p1:1) carryOut() = 0 of(1, 0) = FULL");
        run("open(1) 15 * bill(1, 1) write(b1:1;r1:1) carryOut() = 0 of(1, 0) = 0");
        run(TO_THE_END + "open(1) write(r1:1;d1;r1:1) carryOut() = 1 of(1, 0) = 1");
        says("The text becomes empty.",
            "write(d1) carryOut() = 1 clearText() = 0", "write(d0) carryOut() = 0 clearText() = 0",
            "write(d1;d0;d1) carryOut() = 1 clearText() = 0",
            "write(" + DAYS_80 + ") carryOut() = 27 syntaxError() = 0 type(115) = 1");
        says("One state is saved for the whole call, also if no order is carried out. Undoable.",
            two + "undo() = 2 write(r1:1;r1:2;d3) carryOut() = 3 undo() = 2 of(1, 0) = 0 day() = 0 entries() = 0 "
                + "undo() = 1",
            two + "write(s1) carryOut() = 0 undo() = 3 of(1, 0) = 100 undo() = 2",
            two + "write(r1:1;s1) carryOut() = 1 undo() = 3 of(1, 0) = 100 undo() = 2",
            times(1, 6, "open(#)") + "write(s1) carryOut() = 0 6 * undo() undo() = NOT_POSSIBLE clients() = 1");
        undoes(two + "write(r1:1;p1:2;t1>2:3;b1:4;s1;d5) ", "carryOut()");
        undoes(two + "write(d0) ", "carryOut()");
        says("Returns the number of orders that are carried out",
            two + "write(d0) carryOut() = 0 write(d1;d0) carryOut() = 1 write(d1;d1;d0;d1) carryOut() = 2 write(r1:1) "
                + "carryOut() = 1");
        says("BAD_TEXT if the text is not an order list (then the text stays).",
            "carryOut() = BAD_TEXT undo() = NOT_POSSIBLE",
            two + "write(r1:5;) carryOut() = BAD_TEXT of(1, 0) = 100 clearText() = 5",
            two + "write(r1:5;d) carryOut() = BAD_TEXT type(49) = 7 carryOut() = 2 of(1, 0) = 105 day() = 1",
            two + "write(r1:5;x) carryOut() = BAD_TEXT syntaxError() = 5 carryOut() = BAD_TEXT clearText() = 6",
            two + "write(r1:1234567) carryOut() = BAD_TEXT clearText() = 10");
    }

    static void undo() {
        section("Promise 30: undo");
        says("Restores the state that was saved last, and discards it from the saved states.",
            "open(1) receive(1, 5) receive(1, 6) undo() = 2 of(1, 0) = 5 undo() = 1 of(1, 0) = 0 undo() = 0 "
                + "clients() = 0",
            "open(1) receive(1, 5) receive(1, 6) undo() = 2 receive(1, 7) = 12 undo() = 2 of(1, 0) = 5 undo() = 1 "
                + "of(1, 0) = 0",
            "open(1) receive(1, 5) receive(1, 0) = BAD_VALUE undo() = 1 of(1, 0) = 0",
            // the state from before a hold or a bill is one in which its number has not been used
            "open(1) open(2) receive(1, 9) receive(2, 9) hold(1, 4, 5) = 1 undo() holdOf(1, 0) = NO_SUCH "
                + "hold(2, 3, 5) = 1 holdOf(1, 0) = 2 holdOf(1, 1) = 3",
            "open(1) receive(1, 9) hold(1, 1, 5) = 1 hold(1, 2, 5) = 2 release(2) hold(1, 3, 5) = 3 undo() undo() "
                + "hold(1, 4, 5) = 3 undo() undo() hold(1, 5, 5) = 2",
            "open(1) open(2) bill(1, 4) = 1 undo() billOf(1, 0) = NO_SUCH bill(2, 3) = 1 billOf(1, 0) = 2 "
                + "billOf(1, 1) = 3",
            "open(1) receive(1, 9) bill(1, 1) = 1 bill(1, 2) = 2 settle(2) bill(1, 3) = 3 undo() undo() "
                + "bill(1, 4) = 3 undo() undo() bill(1, 5) = 2",
            "open(1) write(b1:5;b1:6) carryOut() = 2 undo() bill(1, 7) = 1 billOf(2, 0) = NO_SUCH",
            // so it is with the numbers of entries
            "open(1) receive(1, 992821) receive(1, 5) undo() pay(1, 7) entries() = 2 entry(2, 1) = 2 "
                + "reverse(2) = 3");
        says("Returns the number of saved states that are left",
            times(1, 5, "open(#)") + "undo() = 4 undo() = 3 open(9) undo() = 3 undo() = 2 undo() = 1 undo() = 0",
            times(1, 6, "open(#)") + "undo() = 5", times(1, 7, "open(#)") + "undo() = 5",
            times(1, 12, "open(#)") + "undo() = 5 undo() = 4");
        says("NOT_POSSIBLE if no state is saved.",
            "undo() = NOT_POSSIBLE",
            "open(1) undo() = 0 undo() = NOT_POSSIBLE open(2) undo() = 0 undo() = NOT_POSSIBLE",
            "write(s1) undo() = NOT_POSSIBLE clearText() = 2",
            times(1, 9, "open(#)") + "6 * undo() undo() = NOT_POSSIBLE undo() = NOT_POSSIBLE clients() = 3 "
                + "open(50) = 4 undo() = 0");
    }

    // ---- digest

    static void rows(String run, String call, int highest, int columns, List<Long> list) {
        for (int number = 1; number <= highest; number++) {
            if (ask(run, call + "(" + number + ", 0)") >= 0) {
                list.add((long) number);
                columns(run, call, number, columns, list);
            }
        }
    }

    static void columns(String run, String call, int number, int columns, List<Long> list) {
        for (int what = 0; what < columns; what++) {
            list.add(ask(run, call + "(" + number + ", " + what + ")"));
        }
    }

    // The hash at the end of a run, from what the other calls answer there.
    static void hash(String run) {
        List<Long> list = new ArrayList<>(List.of(ask(run, "day()"), ask(run, "clients()")));
        rows(run, "of", 99, 8, list);
        rows(run, "holdOf", 40, 3, list);
        rows(run, "billOf", 40, 3, list);
        long entries = ask(run, "entries()");
        list.add(entries);
        for (int entry = (int) Math.max(1, entries - 23); entry <= entries; entry++) {
            columns(run, "entry", entry, 7, list);
        }
        for (int order = 1; order <= 3; order++) {
            columns(run, "ranked", order, (int) ask(run, "clients()"), list);
        }
        for (int what = 0; what <= 5; what++) {
            list.add(ask(run, "sum(" + what + ")"));
        }
        BigInteger hash = BigInteger.valueOf(202);
        for (long value : list) {
            hash = hash.multiply(BigInteger.valueOf(31)).add(BigInteger.valueOf(value));
        }
        due(run + "digest()", ask(run, "digest()"), hash.longValue());
    }

    static void digest() {
        section("Promise 31: digest");
        says("Computes a hash of the state.",
            "write(s1) digest() = " + ask("", "digest()") + " clearText() digest() = " + ask("", "digest()"),
            "open(1) undo() digest() = " + ask("", "digest()"));
        // six saved states and a text of its own are not part of the state
        hash(RICH);
        hash(RICH + "undo() undo() clearText() ");
        says("The hash starts at 202.");
        hash("");
        says("For each value v of the following list, in order, the hash becomes 31 * hash + v, in long arithmetic "
            + "with overflow.");
        hash("open(1) open(50) open(99) " + FILL_1 + "10 * receive(50, MOST) 10 * receive(99, MOST) ");
        hash(times(1, 12, "open(#) receive(#, MOST)") + "20 * pass(400) ");
        says("The list is: day(); clients(); for each client, by ascending numbers, its number, and its numbers 0 to "
            + "7;");
        hash("pass(7) ");
        hash("pass(7) open(9) open(3) open(5) receive(5, 70) pass(3) hold(5, 3, 9) bill(5, 2) bill(9, 4) ");
        hash(times(1, 12, "open(#)"));
        says("for each hold, by ascending numbers, its number, and its numbers 0 to 2;");
        hash("open(9) open(3) receive(9, 70) receive(3, 70) hold(9, 3, 9) hold(3, 2, 8) hold(9, 1, 2) ");
        hash("open(9) receive(9, 70) 15 * hold(9, 3, 9) release(1) release(7) release(15) hold(9, 1, 2) ");
        hash("open(9) receive(9, 70) hold(9, 3, 1) hold(9, 4, 2) pass(2) ");
        says("for each open bill likewise;");
        hash("open(9) open(3) receive(9, 70) bill(9, 75) bill(3, 7) bill(9, 1) settle(1) ");
        hash("open(9) receive(9, 70) 15 * bill(9, 3) settle(1) settle(7) settle(15) bill(9, 4) ");
        says("entries(); for each entry that is kept, by ascending numbers, its numbers 0 to 6;");
        hash("open(9) open(3) " + times(1, 23, "receive(9, #)"));
        hash("open(9) open(3) " + times(1, 24, "receive(9, #)"));
        hash("open(9) open(3) " + times(1, 25, "receive(9, #)") + "transfer(9, 3, 7) reverse(26) reverse(10) ");
        hash("open(9) open(3) " + times(1, 49, "receive(9, #)"));
        says("the clients by their ranks in the orders 1, 2 and 3;");
        hash("open(9) open(3) open(5) receive(9, 70) receive(3, 60) receive(5, 50) hold(9, 60, 9) pass(1) pay(5, 1) "
            + "pass(1) pay(3, 1) ");
        hash("open(9) open(3) open(5) receive(9, 50) receive(3, 60) receive(5, 70) pass(1) pay(5, 21) hold(3, 20, 9) ");
        says("sum(0) to sum(5).");
        hash(ONE_RATE + "receive(1, 10000) hold(1, 5, 99) bill(1, 7) settle(1) pay(1, 11) pass(30) ");
        hash("open(1) " + "receive(1, MOST) pay(1, MOST) ".repeat(22));
        hash("open(1) receive(1, 5) pay(1, 5) close(1) ");
        says("Returns the hash.",
            "digest() = " + new BigInteger("31").pow(9).multiply(BigInteger.valueOf(202)).longValue());
    }

    // ---- the document

    // FaceTest looks at the face.
    static final Set<String> OTHER_SECTIONS = Set.of("# ClientMoneyBook", "The public face", "Not promised");

    // What names nothing that a call could show.
    static final Set<String> PLAIN = Set.of(
        "A book for money that a solicitor keeps for clients: receipts, payments and transfers, sums that are held "
            + "until a day or until they are released, bills that are settled from what is free, daily interest by two "
            + "rates that is credited every thirty days, entries of an audit trail with a chained check number, "
            + "entries that are reversed, ranks of clients, days on which a payment becomes possible, and orders that "
            + "are read from a text",
        "what later calls answer is free", "All values are integers. Amounts are in cents",
        "Clients", "Days", "Holds", "Bills", "Interest", "Trail", "Reversals", "Text", "Undo", "Error codes",
        "The constants:");

    static final Pattern PLAIN_FORM = Pattern.compile("`(int|long) \\w+\\([^)]*\\)`:|`ClientMoneyBook\\(\\)`:|(Ahead "
        + "of the calls (`\\w+`,? ?)+ the interface says: ---- \\w+[. ]*)+");

    // Every sentence that a test names stands in the document, and every one of the document has a test.
    static void document() throws IOException {
        for (String part : Files.readString(Path.of("../shared/DOC.md")).split("(?m)^## ")) {
            int end = Math.max(0, part.indexOf('\n'));
            section = part.substring(0, end).trim();
            sentence = "the document";
            if (!OTHER_SECTIONS.contains(section)) {
                covered(part.substring(end).replaceAll("\\s+", " "), SENTENCES.getOrDefault(section, List.of()));
            }
        }
    }

    static void covered(String body, List<String> sentences) {
        List<String> longestFirst = new ArrayList<>(sentences);
        longestFirst.sort((a, b) -> b.length() - a.length());
        String left = body;
        for (String words : longestFirst) {
            checks++;
            if (!body.contains(words)) {
                complain("the document does not say: " + words);
            }
            left = left.replace(words, "|");
        }
        for (String rest : left.split("\\|")) {
            String words = rest.replaceAll("^[ .;,-]+|[ .;,-]+$", "");
            checks++;
            if (!words.isEmpty() && !PLAIN.contains(words) && !PLAIN_FORM.matcher(words).matches()) {
                complain("no test names: " + words);
            }
        }
    }

    public static void main(String[] args) throws IOException {
        for (Method method : ClientMoneyBook.class.getMethods()) {
            METHODS.put(method.getName(), method);
        }
        whatItIs();
        clientsAndDays();
        holdsAndBills();
        interest();
        credits();
        trail();
        checkNumbers();
        reversals();
        textAndUndo();
        errorCodes();
        constants();
        newObject();
        setRates();
        setThreshold();
        open();
        close();
        receive();
        pay();
        transfer();
        hold();
        release();
        bill();
        settle();
        pass();
        reverse();
        reverseRefused();
        day();
        clients();
        ranked();
        of();
        holdOf();
        billOf();
        entries();
        entry();
        sum();
        payableOn();
        interestIn();
        type();
        clearText();
        syntaxError();
        carryOut();
        undo();
        digest();
        document();
        String of = wrong == 0 ? "" : wrong + " of ";
        System.out.println(of + checks + (wrong == 0 ? " checks are as due" : " checks are not as due"));
        if (wrong != 0) {
            System.exit(1);
        }
    }
}
