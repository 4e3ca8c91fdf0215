// For each promise of the document: ordinary inputs, the edges that it names, and wrong inputs, with
// answers that were worked out by hand.
public final class PromiseTest {
    static final int NO_SUCH = -1;
    static final int BAD_VALUE = -2;
    static final int NOT_POSSIBLE = -3;
    static final int LIMIT = -4;
    static final int BAD_TEXT = -5;
    static final int NONE = -6;
    static final int LOWEST = Integer.MIN_VALUE;
    static final int GREATEST = Integer.MAX_VALUE;
    static final int MOST = 100000000;
    static final int FULL = 1000000000;

    static int wrong = 0;
    static int promise = 0;

    static void due(String call, long got, long want) {
        if (got != want) {
            wrong++;
            System.out.println("promise " + promise + ": " + call + " answered " + got + ", due is " + want);
        }
    }

    // A call that must answer an error code and change nothing, not even what undo would restore.
    static void refused(ClientMoneyBook x, long before, String call, long got, long want) {
        due(call, got, want);
        due(call + ", then digest()", x.digest(), before);
    }

    static ClientMoneyBook with(int... clients) {
        ClientMoneyBook x = new ClientMoneyBook();
        for (int client : clients) {
            x.open(client);
        }
        return x;
    }

    static void fill(ClientMoneyBook x, int client) {
        for (int i = 0; i < 10; i++) {
            x.receive(client, MOST);
        }
    }

    static void type(ClientMoneyBook x, String text) {
        for (int i = 0; i < text.length(); i++) {
            x.type(text.charAt(i));
        }
    }

    // Undoes all, and tells how many states were saved.
    static int saved(ClientMoneyBook x) {
        int states = 0;
        while (states < 100 && x.undo() >= 0) {
            states++;
        }
        return states;
    }

    public static void main(String[] args) {
        promise = 1; newObject();
        promise = 2; setRates();
        promise = 3; setThreshold();
        promise = 4; open();
        promise = 5; close();
        promise = 6; receive();
        promise = 7; pay();
        promise = 8; transfer();
        promise = 9; hold();
        promise = 10; release();
        promise = 11; bill();
        promise = 12; settle();
        promise = 13; pass(); passCredits(); passCaps(); passEndsHolds();
        promise = 14; reverse(); reverseRefusals(); reverseKept();
        promise = 15; day();
        promise = 16; clients();
        promise = 17; ranked(); rankedByMovement();
        promise = 18; of();
        promise = 19; holdOf();
        promise = 20; billOf();
        promise = 21; entries();
        promise = 22; entry(); entryKept();
        promise = 23; sum();
        promise = 24; payableOn(); payableOnFar();
        promise = 25; interestIn();
        promise = 26; typeCharacters();
        promise = 27; clearText();
        promise = 28; syntaxError();
        promise = 29; carryOut(); carryOutStops();
        promise = 30; undo(); undoRestoresAll();
        promise = 31; digest();
        System.out.println(wrong == 0 ? "all answers are as due" : wrong + " answers are not as due");
        if (wrong != 0) {
            System.exit(1);
        }
    }

    static void newObject() {
        ClientMoneyBook x = new ClientMoneyBook();
        due("day()", x.day(), 0);
        due("clients()", x.clients(), 0);
        due("entries()", x.entries(), 0);
        for (int what = 0; what <= 5; what++) {
            due("sum(" + what + ")", x.sum(what), 0);
        }
        due("ranked(0, 0)", x.ranked(0, 0), NO_SUCH);
        due("of(1, 0)", x.of(1, 0), NO_SUCH);
        due("of(0, 0)", x.of(0, 0), NO_SUCH);
        due("holdOf(1, 0)", x.holdOf(1, 0), NO_SUCH);
        due("holdOf(0, 0)", x.holdOf(0, 0), NO_SUCH);
        due("billOf(0, 0)", x.billOf(0, 0), NO_SUCH);
        due("entry(1, 0)", x.entry(1, 0), NO_SUCH);
        due("entry(0, 5)", x.entry(0, 5), NO_SUCH);
        due("clearText()", x.clearText(), 0);
        due("undo()", x.undo(), NOT_POSSIBLE);
        long hash = 202;
        for (int i = 0; i < 9; i++) {
            hash *= 31;
        }
        due("digest()", x.digest(), hash);
        // the initial rates: 100 * 100000 + 250 * 99900000 a day
        x.open(1);
        x.receive(1, MOST);
        x.pass(1);
        due("of(1, 3)", x.of(1, 3), 24985000000L / 3650000L);
        due("setRates", x.setRates(0, 0, 0), 100000);
        due("setThreshold", x.setThreshold(0), 20);
        ClientMoneyBook y = new ClientMoneyBook();
        due("another book", y.clients(), 0);
    }

    static void setRates() {
        ClientMoneyBook x = with(3);
        x.receive(3, 50000);
        long before = x.digest();
        refused(x, before, "setRates(-1, 0, 0)", x.setRates(-1, 0, 0), BAD_VALUE);
        refused(x, before, "setRates(1000000001, 0, 0)", x.setRates(FULL + 1, 0, 0), BAD_VALUE);
        refused(x, before, "setRates(0, -1, 0)", x.setRates(0, -1, 0), BAD_VALUE);
        refused(x, before, "setRates(0, 2001, 0)", x.setRates(0, 2001, 0), BAD_VALUE);
        refused(x, before, "setRates(0, 0, -1)", x.setRates(0, 0, -1), BAD_VALUE);
        refused(x, before, "setRates(0, 0, 2001)", x.setRates(0, 0, 2001), BAD_VALUE);
        refused(x, before, "setRates(lowest)", x.setRates(LOWEST, LOWEST, LOWEST), BAD_VALUE);
        refused(x, before, "setRates(greatest)", x.setRates(GREATEST, GREATEST, GREATEST), BAD_VALUE);
        due("saved states", saved(x), 2);
        x = with(3);
        x.receive(3, 50000);
        due("setRates(40000, 365, 730)", x.setRates(40000, 365, 730), 100000);
        x.pass(1);
        // 365 * 40000 + 730 * 10000 = 21900000
        due("of(3, 3)", x.of(3, 3), 6);
        x.undo();
        due("undo()", x.undo(), 2);
        due("setRates(1000000000, 2000, 2000)", x.setRates(FULL, 2000, 2000), 100000);
        due("setRates(0, 0, 0)", x.setRates(0, 0, 0), FULL);
        due("setRates(0, 0, 73)", x.setRates(0, 0, 73), 0);
        x.pass(1);
        // all of it lies above the limit 0: 73 * 50000 = 3650000
        due("of(3, 3)", x.of(3, 3), 1);
    }

    static void setThreshold() {
        ClientMoneyBook x = with(3);
        long before = x.digest();
        refused(x, before, "setThreshold(-1)", x.setThreshold(-1), BAD_VALUE);
        refused(x, before, "setThreshold(10001)", x.setThreshold(10001), BAD_VALUE);
        refused(x, before, "setThreshold(lowest)", x.setThreshold(LOWEST), BAD_VALUE);
        refused(x, before, "setThreshold(greatest)", x.setThreshold(GREATEST), BAD_VALUE);
        due("setThreshold(10000)", x.setThreshold(10000), 20);
        due("setThreshold(0)", x.setThreshold(0), 10000);
        due("setThreshold(7)", x.setThreshold(7), 0);
        due("undo()", x.undo(), 3);
        due("setThreshold(8)", x.setThreshold(8), 0);
        due("saved states", saved(x), 4);
    }

    static void open() {
        ClientMoneyBook x = new ClientMoneyBook();
        long before = x.digest();
        refused(x, before, "open(0)", x.open(0), BAD_VALUE);
        refused(x, before, "open(100)", x.open(100), BAD_VALUE);
        refused(x, before, "open(-1)", x.open(-1), BAD_VALUE);
        refused(x, before, "open(lowest)", x.open(LOWEST), BAD_VALUE);
        refused(x, before, "open(greatest)", x.open(GREATEST), BAD_VALUE);
        due("undo()", x.undo(), NOT_POSSIBLE);
        due("open(99)", x.open(99), 1);
        due("open(1)", x.open(1), 2);
        due("open(99)", x.open(99), NOT_POSSIBLE);
        due("ranked(0, 0)", x.ranked(0, 0), 1);
        due("ranked(0, 1)", x.ranked(0, 1), 99);
        due("of(1, 0)", x.of(1, 0), 0);
        for (int i = 0; i < 10; i++) {
            due("open(" + (50 - i) + ")", x.open(50 - i), 3 + i);
        }
        before = x.digest();
        refused(x, before, "open(2) as the 13th", x.open(2), LIMIT);
        refused(x, before, "open(50) again", x.open(50), NOT_POSSIBLE);
        refused(x, before, "open(0) as the 13th", x.open(0), BAD_VALUE);
        due("ranked(0, 1)", x.ranked(0, 1), 41);
        due("ranked(0, 10)", x.ranked(0, 10), 50);
        due("undo()", x.undo(), 5);
        due("clients()", x.clients(), 11);
        due("of(41, 0)", x.of(41, 0), NO_SUCH);
        // the count of interest starts at 0: one less than a cent is no cent
        x = with(1);
        x.setRates(FULL, 1, 0);
        x.receive(1, 3649999);
        x.pass(1);
        due("of(1, 3)", x.of(1, 3), 0);
    }

    static void close() {
        ClientMoneyBook x = with(5, 2, 8);
        x.receive(5, 100000);
        x.bill(2, 10);
        long before = x.digest();
        refused(x, before, "close(1)", x.close(1), NO_SUCH);
        refused(x, before, "close(0)", x.close(0), NO_SUCH);
        refused(x, before, "close(lowest)", x.close(LOWEST), NO_SUCH);
        refused(x, before, "close(5) with a balance", x.close(5), NOT_POSSIBLE);
        refused(x, before, "close(2) with a bill", x.close(2), NOT_POSSIBLE);
        x.pass(29);
        x.pay(5, 100000);
        due("of(5, 3) before", x.of(5, 3), 79);
        due("close(5)", x.close(5), 2);
        due("of(5, 3)", x.of(5, 3), NO_SUCH);
        due("ranked(0, 1)", x.ranked(0, 1), 8);
        due("open(5)", x.open(5), 3);
        due("of(5, 3) after", x.of(5, 3), 0);
        due("of(5, 5)", x.of(5, 5), 29);
        due("pass(1)", x.pass(1), 0);
        due("close(8)", x.close(8), 2);
        due("close(8) again", x.close(8), NO_SUCH);
        due("undo()", x.undo(), 5);
        due("of(8, 0)", x.of(8, 0), 0);
    }

    static void receive() {
        ClientMoneyBook x = with(7);
        long before = x.digest();
        refused(x, before, "receive(6, 1)", x.receive(6, 1), NO_SUCH);
        refused(x, before, "receive(6, 0)", x.receive(6, 0), NO_SUCH);
        refused(x, before, "receive(0, 1)", x.receive(0, 1), NO_SUCH);
        refused(x, before, "receive(7, 0)", x.receive(7, 0), BAD_VALUE);
        refused(x, before, "receive(7, -5)", x.receive(7, -5), BAD_VALUE);
        refused(x, before, "receive(7, most + 1)", x.receive(7, MOST + 1), BAD_VALUE);
        refused(x, before, "receive(7, lowest)", x.receive(7, LOWEST), BAD_VALUE);
        refused(x, before, "receive(7, greatest)", x.receive(7, GREATEST), BAD_VALUE);
        due("receive(7, 1)", x.receive(7, 1), 1);
        for (int i = 1; i <= 9; i++) {
            due("receive(7, most)", x.receive(7, MOST), i * MOST + 1);
        }
        before = x.digest();
        refused(x, before, "receive(7, most)", x.receive(7, MOST), LIMIT);
        refused(x, before, "receive(7, most + 1)", x.receive(7, MOST + 1), BAD_VALUE);
        due("receive(7, most - 1)", x.receive(7, MOST - 1), FULL);
        due("receive(7, 1)", x.receive(7, 1), LIMIT);
        due("sum(4)", x.sum(4), FULL);
        due("entries()", x.entries(), 11);
        due("entry(11, 1)", x.entry(11, 1), 1);
        due("entry(11, 2)", x.entry(11, 2), 7);
        due("entry(11, 3)", x.entry(11, 3), 0);
        due("entry(11, 4)", x.entry(11, 4), MOST - 1);
        due("undo()", x.undo(), 5);
        due("of(7, 0)", x.of(7, 0), 9 * MOST + 1);
    }

    static void pay() {
        ClientMoneyBook x = with(7);
        x.receive(7, 1000);
        x.hold(7, 400, 5);
        long before = x.digest();
        refused(x, before, "pay(6, 1)", x.pay(6, 1), NO_SUCH);
        refused(x, before, "pay(6, 0)", x.pay(6, 0), NO_SUCH);
        refused(x, before, "pay(7, 0)", x.pay(7, 0), BAD_VALUE);
        refused(x, before, "pay(7, -1)", x.pay(7, -1), BAD_VALUE);
        refused(x, before, "pay(7, most + 1)", x.pay(7, MOST + 1), BAD_VALUE);
        refused(x, before, "pay(7, lowest)", x.pay(7, LOWEST), BAD_VALUE);
        refused(x, before, "pay(7, 601)", x.pay(7, 601), NOT_POSSIBLE);
        refused(x, before, "pay(7, most)", x.pay(7, MOST), NOT_POSSIBLE);
        due("pay(7, 1)", x.pay(7, 1), 999);
        due("pay(7, 599)", x.pay(7, 599), 400);
        due("pay(7, 1)", x.pay(7, 1), NOT_POSSIBLE);
        due("sum(5)", x.sum(5), 600);
        due("sum(0)", x.sum(0), 400);
        due("entry(3, 1)", x.entry(3, 1), 2);
        due("entry(3, 2)", x.entry(3, 2), 7);
        due("entry(3, 3)", x.entry(3, 3), 0);
        due("entry(3, 4)", x.entry(3, 4), 599);
        due("undo()", x.undo(), 4);
        due("of(7, 0)", x.of(7, 0), 999);
        x = with(7);
        x.receive(7, MOST);
        due("pay(7, most)", x.pay(7, MOST), 0);
    }

    static void transfer() {
        ClientMoneyBook x = with(7, 3);
        x.receive(7, 1000);
        x.hold(7, 400, 5);
        long before = x.digest();
        refused(x, before, "transfer(7, 6, 1)", x.transfer(7, 6, 1), NO_SUCH);
        refused(x, before, "transfer(6, 7, 1)", x.transfer(6, 7, 1), NO_SUCH);
        refused(x, before, "transfer(6, 6, 0)", x.transfer(6, 6, 0), NO_SUCH);
        refused(x, before, "transfer(7, 0, 0)", x.transfer(7, 0, 0), NO_SUCH);
        refused(x, before, "transfer(7, 7, 1)", x.transfer(7, 7, 1), BAD_VALUE);
        refused(x, before, "transfer(7, 3, 0)", x.transfer(7, 3, 0), BAD_VALUE);
        refused(x, before, "transfer(7, 3, most + 1)", x.transfer(7, 3, MOST + 1), BAD_VALUE);
        refused(x, before, "transfer(7, 3, lowest)", x.transfer(7, 3, LOWEST), BAD_VALUE);
        refused(x, before, "transfer(7, 3, 601)", x.transfer(7, 3, 601), NOT_POSSIBLE);
        due("transfer(7, 3, 600)", x.transfer(7, 3, 600), 400);
        due("of(3, 0)", x.of(3, 0), 600);
        due("transfer(3, 7, 1)", x.transfer(3, 7, 1), 599);
        due("entry(2, 1)", x.entry(2, 1), 3);
        due("entry(2, 2)", x.entry(2, 2), 7);
        due("entry(2, 3)", x.entry(2, 3), 3);
        due("entry(2, 4)", x.entry(2, 4), 600);
        due("sum(0)", x.sum(0), 1000);
        due("sum(4)", x.sum(4), 1000);
        due("sum(5)", x.sum(5), 0);
        due("undo()", x.undo(), 5);
        due("of(3, 0)", x.of(3, 0), 600);
        x = with(1, 2);
        fill(x, 1);
        x.receive(2, 5);
        before = x.digest();
        refused(x, before, "transfer(2, 1, 6)", x.transfer(2, 1, 6), NOT_POSSIBLE);
        refused(x, before, "transfer(2, 1, 1)", x.transfer(2, 1, 1), LIMIT);
        x.pay(1, 3);
        due("transfer(2, 1, 4)", x.transfer(2, 1, 4), LIMIT);
        due("transfer(2, 1, 3)", x.transfer(2, 1, 3), 2);
        due("of(1, 0)", x.of(1, 0), FULL);
        due("transfer(1, 2, most)", x.transfer(1, 2, MOST), 9 * MOST);
    }

    static void hold() {
        ClientMoneyBook x = with(7, 3);
        x.receive(7, 1000);
        long before = x.digest();
        refused(x, before, "hold(6, 1, 1)", x.hold(6, 1, 1), NO_SUCH);
        refused(x, before, "hold(6, 0, 0)", x.hold(6, 0, 0), NO_SUCH);
        refused(x, before, "hold(7, 0, 1)", x.hold(7, 0, 1), BAD_VALUE);
        refused(x, before, "hold(7, most + 1, 1)", x.hold(7, MOST + 1, 1), BAD_VALUE);
        refused(x, before, "hold(7, 1, 0)", x.hold(7, 1, 0), BAD_VALUE);
        refused(x, before, "hold(7, 1, 1000)", x.hold(7, 1, 1000), BAD_VALUE);
        refused(x, before, "hold(7, 1001, 1000)", x.hold(7, 1001, 1000), BAD_VALUE);
        refused(x, before, "hold(7, lowest, 1)", x.hold(7, LOWEST, 1), BAD_VALUE);
        refused(x, before, "hold(7, 1, greatest)", x.hold(7, 1, GREATEST), BAD_VALUE);
        refused(x, before, "hold(7, 1001, 1)", x.hold(7, 1001, 1), NOT_POSSIBLE);
        refused(x, before, "hold(3, 1, 1)", x.hold(3, 1, 1), NOT_POSSIBLE);
        x.pass(2);
        due("hold(7, 1, 1)", x.hold(7, 1, 1), 1);
        due("holdOf(1, 2)", x.holdOf(1, 2), 3);
        due("hold(7, 985, 999)", x.hold(7, 985, 999), 2);
        due("holdOf(2, 2)", x.holdOf(2, 2), 1001);
        due("of(7, 1)", x.of(7, 1), 986);
        due("of(7, 2)", x.of(7, 2), 14);
        due("hold(7, 15, 1)", x.hold(7, 15, 1), NOT_POSSIBLE);
        due("entries()", x.entries(), 1);
        for (int i = 3; i <= 15; i++) {
            due("hold(7, 1, 3)", x.hold(7, 1, 3), i);
        }
        before = x.digest();
        refused(x, before, "hold(7, 1, 1) as the 16th", x.hold(7, 1, 1), LIMIT);
        refused(x, before, "hold(7, 2, 1) as the 16th", x.hold(7, 2, 1), NOT_POSSIBLE);
        refused(x, before, "hold(7, 2, 0) as the 16th", x.hold(7, 2, 0), BAD_VALUE);
        due("undo()", x.undo(), 5);
        due("of(7, 6)", x.of(7, 6), 14);
        due("hold(7, 1, 3)", x.hold(7, 1, 3), 15);
        x.release(15);
        due("a number is not used again", x.hold(7, 1, 3), 16);
    }

    static void release() {
        ClientMoneyBook x = with(7, 3);
        x.receive(7, 1000);
        x.receive(3, 50);
        x.hold(7, 100, 9);
        x.hold(3, 20, 9);
        x.hold(7, 300, 9);
        long before = x.digest();
        refused(x, before, "release(0)", x.release(0), NO_SUCH);
        refused(x, before, "release(4)", x.release(4), NO_SUCH);
        refused(x, before, "release(-1)", x.release(-1), NO_SUCH);
        refused(x, before, "release(lowest)", x.release(LOWEST), NO_SUCH);
        refused(x, before, "release(greatest)", x.release(GREATEST), NO_SUCH);
        due("release(1)", x.release(1), 700);
        due("release(1) again", x.release(1), NO_SUCH);
        due("holdOf(2, 1)", x.holdOf(2, 1), 20);
        due("holdOf(3, 1)", x.holdOf(3, 1), 300);
        due("release(2)", x.release(2), 50);
        due("of(7, 6)", x.of(7, 6), 1);
        due("entries()", x.entries(), 2);
        due("undo()", x.undo(), 5);
        due("of(3, 1)", x.of(3, 1), 20);
        due("release(3)", x.release(3), 1000);
    }

    static void bill() {
        ClientMoneyBook x = with(7);
        long before = x.digest();
        refused(x, before, "bill(6, 1)", x.bill(6, 1), NO_SUCH);
        refused(x, before, "bill(6, 0)", x.bill(6, 0), NO_SUCH);
        refused(x, before, "bill(7, 0)", x.bill(7, 0), BAD_VALUE);
        refused(x, before, "bill(7, most + 1)", x.bill(7, MOST + 1), BAD_VALUE);
        refused(x, before, "bill(7, lowest)", x.bill(7, LOWEST), BAD_VALUE);
        for (int i = 1; i <= 15; i++) {
            due("bill(7, most)", x.bill(7, MOST), i);
        }
        due("of(7, 4)", x.of(7, 4), 15 * MOST);
        due("of(7, 7)", x.of(7, 7), 15);
        before = x.digest();
        refused(x, before, "bill(7, 1) as the 16th", x.bill(7, 1), LIMIT);
        refused(x, before, "bill(7, 0) as the 16th", x.bill(7, 0), BAD_VALUE);
        refused(x, before, "bill(6, 1) as the 16th", x.bill(6, 1), NO_SUCH);
        due("entries()", x.entries(), 0);
        due("of(7, 0)", x.of(7, 0), 0);
        due("undo()", x.undo(), 5);
        due("bill(7, 1)", x.bill(7, 1), 15);
        x.receive(7, 2);
        due("settle(15)", x.settle(15), 1);
        due("a number is not used again", x.bill(7, 1), 16);
    }

    static void settle() {
        ClientMoneyBook x = with(7, 3);
        x.bill(7, 500);
        x.bill(3, 80);
        long before = x.digest();
        refused(x, before, "settle(0)", x.settle(0), NO_SUCH);
        refused(x, before, "settle(3)", x.settle(3), NO_SUCH);
        refused(x, before, "settle(lowest)", x.settle(LOWEST), NO_SUCH);
        refused(x, before, "settle(1) without money", x.settle(1), NOT_POSSIBLE);
        x.receive(7, 300);
        x.hold(7, 300, 2);
        due("settle(1) while all is held", x.settle(1), NOT_POSSIBLE);
        x.release(1);
        x.hold(7, 100, 2);
        due("settle(1)", x.settle(1), 200);
        due("billOf(1, 1)", x.billOf(1, 1), 300);
        due("billOf(1, 2)", x.billOf(1, 2), 200);
        due("of(7, 0)", x.of(7, 0), 100);
        due("of(7, 2)", x.of(7, 2), 0);
        due("sum(2)", x.sum(2), 200);
        due("sum(5)", x.sum(5), 0);
        due("entry(2, 1)", x.entry(2, 1), 4);
        due("entry(2, 2)", x.entry(2, 2), 7);
        due("entry(2, 3)", x.entry(2, 3), 0);
        due("entry(2, 4)", x.entry(2, 4), 200);
        x.receive(7, 900);
        due("settle(1)", x.settle(1), 300);
        due("settle(1) again", x.settle(1), NO_SUCH);
        due("of(7, 0)", x.of(7, 0), 700);
        due("sum(2)", x.sum(2), 500);
        due("billOf(2, 1)", x.billOf(2, 1), 80);
        due("undo()", x.undo(), 5);
        due("sum(2)", x.sum(2), 200);
        due("billOf(1, 1)", x.billOf(1, 1), 300);
        x.receive(3, 80);
        due("settle(2) to the last cent", x.settle(2), 80);
        due("billOf(2, 0)", x.billOf(2, 0), NO_SUCH);
        due("close(3)", x.close(3), 1);
    }

    static void pass() {
        ClientMoneyBook x = with(7);
        long before = x.digest();
        refused(x, before, "pass(0)", x.pass(0), BAD_VALUE);
        refused(x, before, "pass(-1)", x.pass(-1), BAD_VALUE);
        refused(x, before, "pass(401)", x.pass(401), BAD_VALUE);
        refused(x, before, "pass(lowest)", x.pass(LOWEST), BAD_VALUE);
        refused(x, before, "pass(greatest)", x.pass(GREATEST), BAD_VALUE);
        due("pass(1)", x.pass(1), 0);
        due("day()", x.day(), 1);
        for (int i = 1; i <= 24; i++) {
            x.pass(400);
            due("day()", x.day(), 400 * i + 1);
        }
        before = x.digest();
        refused(x, before, "pass(399) on day 9601", x.pass(399), LIMIT);
        refused(x, before, "pass(400) on day 9601", x.pass(400), LIMIT);
        refused(x, before, "pass(401) on day 9601", x.pass(401), BAD_VALUE);
        due("pass(398)", x.pass(398), 0);
        due("day()", x.day(), 9999);
        due("pass(1) on the last day", x.pass(1), LIMIT);
        due("pass(0) on the last day", x.pass(0), BAD_VALUE);
        due("undo()", x.undo(), 5);
        due("day()", x.day(), 9601);
    }

    static void passCredits() {
        // 30 days give 10950 * balance, which is 0.003 of it in cents
        ClientMoneyBook x = with(8, 2, 5);
        x.setRates(FULL, 365, 0);
        x.receive(8, 6667);
        x.receive(2, 6666);
        x.receive(5, 20000);
        due("pass(29)", x.pass(29), 0);
        due("entries()", x.entries(), 3);
        due("pass(1)", x.pass(1), 80);
        due("of(8, 0)", x.of(8, 0), 6687);
        due("of(2, 0) below the threshold", x.of(2, 0), 6666);
        due("of(2, 3) stays", x.of(2, 3), 19);
        due("of(8, 3) has what is left", x.of(8, 3), 0);
        due("entries() by ascending numbers", x.entries(), 5);
        due("entry(4, 2)", x.entry(4, 2), 5);
        due("entry(5, 2)", x.entry(5, 2), 8);
        due("entry(4, 0)", x.entry(4, 0), 30);
        due("entry(4, 1)", x.entry(4, 1), 5);
        due("entry(4, 3)", x.entry(4, 3), 0);
        due("entry(4, 4)", x.entry(4, 4), 60);
        due("sum(3)", x.sum(3), 80);
        // 2: 145985400 counts are 39 cents. 5: 10950 * 20060 are 60.18, 8: 3650 + 10950 * 6687 are 20.06
        due("pass(30)", x.pass(30), 119);
        // 2: 3635400 + 10950 * 6705 are 21.1; without the rest of before they would be 20.1
        x.setThreshold(0);
        due("pass(30)", x.pass(30), 21 + 60 + 20);
        due("of(2, 0)", x.of(2, 0), 6726);
        due("pass(90) over three credits", x.pass(90), 60 + (61 + 60 + 61) + 60);
        due("undo()", x.undo(), 5);
        due("day()", x.day(), 90);
        due("sum(3)", x.sum(3), 80 + 119 + 101);
        // money that comes on the last day counts for one day: 365 * 100000000 are 10000 cents
        x = with(1);
        x.setRates(FULL, 365, 0);
        x.pass(29);
        x.receive(1, MOST);
        due("pass(1)", x.pass(1), 10000);
        x.setThreshold(10000);
        due("pass(30)", x.pass(30), 300030);
        // a threshold of 0 credits no interest of 0
        x = with(1);
        x.setThreshold(0);
        x.receive(1, 1);
        due("pass(60)", x.pass(60), 0);
        due("entries()", x.entries(), 1);
    }

    static void passCaps() {
        ClientMoneyBook x = with(1);
        fill(x, 1);
        x.pay(1, 10);
        x.setRates(FULL, 2000, 0);
        due("pass(30) with room below the threshold", x.pass(30), 0);
        x.setThreshold(10);
        due("pass(30) with room of the threshold", x.pass(30), 10);
        due("of(1, 0)", x.of(1, 0), FULL);
        x.setThreshold(0);
        int entries = x.entries();
        due("pass(30) without room", x.pass(30), 0);
        due("entries()", x.entries(), entries);
        x.setRates(0, 0, 0);
        x.pay(1, MOST);
        // 90 days with 2000 * 1000000000 (30 of them with 10 less, twice) less 10 cents stay in the count
        due("of(1, 3)", x.of(1, 3), (30L * 2000 * (FULL - 10) * 2 + 30L * 2000 * FULL - 36500000L) / 3650000);
        due("pass(30)", x.pass(30), (30L * 2000 * (FULL - 10) * 2 + 30L * 2000 * FULL - 36500000L) / 3650000);
    }

    static void passEndsHolds() {
        ClientMoneyBook x = with(1);
        x.receive(1, 1000);
        x.hold(1, 1, 3);
        x.hold(1, 2, 2);
        x.hold(1, 4, 3);
        x.hold(1, 8, 5);
        x.pass(2);
        due("of(1, 1) on day 2", x.of(1, 1), 15);
        x.pass(1);
        due("of(1, 1) on day 3", x.of(1, 1), 13);
        x.pass(1);
        due("of(1, 1) on day 4", x.of(1, 1), 8);
        due("holdOf(1, 0)", x.holdOf(1, 0), NO_SUCH);
        due("holdOf(4, 1)", x.holdOf(4, 1), 8);
        x.undo();
        due("of(1, 1) on day 3", x.of(1, 1), 13);
        x.pass(100);
        due("of(1, 6)", x.of(1, 6), 0);
        due("release(4)", x.release(4), NO_SUCH);
    }

    static void reverse() {
        ClientMoneyBook x = with(1, 2);
        x.receive(1, 1000);
        x.pay(1, 100);
        x.transfer(1, 2, 300);
        x.pass(4);
        due("reverse(1) without enough", x.reverse(1), NOT_POSSIBLE);
        due("reverse(2)", x.reverse(2), 4);
        due("of(1, 0)", x.of(1, 0), 700);
        due("sum(5)", x.sum(5), 0);
        due("sum(4)", x.sum(4), 1000);
        due("entry(2, 6)", x.entry(2, 6), 1);
        due("entry(4, 0)", x.entry(4, 0), 4);
        due("entry(4, 1)", x.entry(4, 1), 6);
        due("entry(4, 2)", x.entry(4, 2), 1);
        due("entry(4, 3)", x.entry(4, 3), 0);
        due("entry(4, 4)", x.entry(4, 4), 100);
        due("entry(4, 6)", x.entry(4, 6), 0);
        due("reverse(2) again", x.reverse(2), NOT_POSSIBLE);
        due("reverse(4)", x.reverse(4), NOT_POSSIBLE);
        due("reverse(3)", x.reverse(3), 5);
        due("of(1, 0)", x.of(1, 0), 1000);
        due("of(2, 0)", x.of(2, 0), 0);
        due("of(2, 5)", x.of(2, 5), 4);
        due("entry(5, 2)", x.entry(5, 2), 1);
        due("entry(5, 3)", x.entry(5, 3), 2);
        due("entry(5, 4)", x.entry(5, 4), 300);
        due("sum(4)", x.sum(4), 1000);
        due("reverse(1)", x.reverse(1), 6);
        due("of(1, 0)", x.of(1, 0), 0);
        due("sum(4)", x.sum(4), 0);
        due("undo()", x.undo(), 5);
        due("entry(1, 6)", x.entry(1, 6), 0);
        due("sum(4)", x.sum(4), 1000);
        due("reverse(1)", x.reverse(1), 6);
    }

    static void reverseRefusals() {
        ClientMoneyBook x = with(1, 2);
        x.receive(1, 10000000);
        x.bill(1, 5);
        x.settle(1);
        x.transfer(1, 2, 300);
        x.hold(2, 1, 90);
        x.pass(30);
        long before = x.digest();
        due("entry(4, 1)", x.entry(4, 1), 5);
        refused(x, before, "reverse(0)", x.reverse(0), NO_SUCH);
        refused(x, before, "reverse(5)", x.reverse(5), NO_SUCH);
        refused(x, before, "reverse(-1)", x.reverse(-1), NO_SUCH);
        refused(x, before, "reverse(lowest)", x.reverse(LOWEST), NO_SUCH);
        refused(x, before, "reverse(greatest)", x.reverse(GREATEST), NO_SUCH);
        refused(x, before, "reverse(2), a settlement", x.reverse(2), NOT_POSSIBLE);
        refused(x, before, "reverse(4), interest", x.reverse(4), NOT_POSSIBLE);
        refused(x, before, "reverse(3), held by the second client", x.reverse(3), NOT_POSSIBLE);
        x.release(1);
        x.pay(2, 300);
        x.close(2);
        due("reverse(3) without account", x.reverse(3), NOT_POSSIBLE);
        due("reverse(5) without account", x.reverse(5), NOT_POSSIBLE);
        x.open(2);
        due("reverse(3) without money", x.reverse(3), NOT_POSSIBLE);
        due("reverse(5) to the new account", x.reverse(5), 6);
        due("of(2, 0)", x.of(2, 0), 300);
        due("reverse(3)", x.reverse(3), 7);
        // the first client of a transfer, and of a payment, is full
        x = with(1, 2);
        fill(x, 1);
        x.transfer(1, 2, 9);
        x.pay(1, 1);
        x.receive(1, 2);
        due("reverse(11) above the limit", x.reverse(11), LIMIT);
        x.hold(2, 1, 1);
        due("reverse(11), NOT_POSSIBLE before LIMIT", x.reverse(11), NOT_POSSIBLE);
        due("receive(1, 8)", x.receive(1, 8), FULL);
        due("reverse(12) above the limit", x.reverse(12), LIMIT);
        x.pay(1, 1);
        due("reverse(12) up to the limit", x.reverse(12), 16);
        due("of(1, 0)", x.of(1, 0), FULL);
    }

    static void reverseKept() {
        ClientMoneyBook x = with(1);
        for (int i = 0; i < 25; i++) {
            x.receive(1, 10);
        }
        due("reverse(1), not kept", x.reverse(1), NO_SUCH);
        due("reverse(2), kept", x.reverse(2), 26);
        due("reverse(2) again", x.reverse(2), NO_SUCH);
        due("reverse(3), the oldest that is kept", x.reverse(3), 27);
    }

    static void day() {
        ClientMoneyBook x = new ClientMoneyBook();
        due("day()", x.day(), 0);
        x.pass(400);
        x.pass(3);
        due("day()", x.day(), 403);
        x.pass(500);
        due("day()", x.day(), 403);
        x.undo();
        due("day()", x.day(), 400);
    }

    static void clients() {
        ClientMoneyBook x = with(3, 4);
        due("clients()", x.clients(), 2);
        x.open(5);
        due("clients()", x.clients(), 3);
        x.close(3);
        due("clients()", x.clients(), 2);
        x.open(4);
        due("clients()", x.clients(), 2);
        x.undo();
        due("clients()", x.clients(), 3);
    }

    static void ranked() {
        ClientMoneyBook x = with(9, 4, 6, 2);
        x.receive(9, 500);
        x.receive(4, 500);
        x.receive(6, 700);
        x.receive(2, 100);
        x.hold(6, 400, 9);
        x.hold(9, 400, 9);
        int[][] want = {{2, 4, 6, 9}, {6, 4, 9, 2}, {2, 9, 6, 4}, {2, 4, 6, 9}};
        for (int order = 0; order <= 3; order++) {
            for (int rank = 0; rank < 4; rank++) {
                due("ranked(" + order + ", " + rank + ")", x.ranked(order, rank), want[order][rank]);
            }
            due("ranked(" + order + ", 4)", x.ranked(order, 4), NO_SUCH);
            due("ranked(" + order + ", -1)", x.ranked(order, -1), NO_SUCH);
            due("ranked(" + order + ", lowest)", x.ranked(order, LOWEST), NO_SUCH);
            due("ranked(" + order + ", greatest)", x.ranked(order, GREATEST), NO_SUCH);
        }
        due("ranked(-1, 0)", x.ranked(-1, 0), BAD_VALUE);
        due("ranked(4, 0)", x.ranked(4, 0), BAD_VALUE);
        due("ranked(4, 4)", x.ranked(4, 4), BAD_VALUE);
        due("ranked(lowest, -1)", x.ranked(LOWEST, -1), BAD_VALUE);
        due("ranked(greatest, 0)", x.ranked(GREATEST, 0), BAD_VALUE);
    }

    static void rankedByMovement() {
        ClientMoneyBook x = with(5, 7, 9);
        x.receive(7, 900000);
        x.pass(2);
        x.open(3);
        x.pass(2);
        x.transfer(7, 9, 50);
        // 5 is from day 0, 3 from day 2, 7 and 9 from day 4
        due("ranked(3, 0)", x.ranked(3, 0), 5);
        due("ranked(3, 1)", x.ranked(3, 1), 3);
        due("ranked(3, 2)", x.ranked(3, 2), 7);
        due("ranked(3, 3)", x.ranked(3, 3), 9);
        x.pass(26);
        // interest moves 7 on day 30; what is held, billed or released moves nobody
        x.hold(9, 1, 1);
        x.bill(5, 4);
        due("ranked(3, 3)", x.ranked(3, 3), 7);
        due("ranked(3, 2)", x.ranked(3, 2), 9);
        due("of(9, 5)", x.of(9, 5), 4);
        due("of(5, 5)", x.of(5, 5), 0);
        x.pass(5);
        // entries that are not kept any more still count
        x.receive(3, 40);
        for (int i = 0; i < 30; i++) {
            x.receive(9, 1);
        }
        due("of(3, 5)", x.of(3, 5), 35);
        x.pass(1);
        x.receive(5, 4);
        x.settle(1);
        due("of(5, 5)", x.of(5, 5), 36);
        x.pass(1);
        x.reverse(x.entries() - 1);
        due("of(5, 5) after nothing could be reversed", x.of(5, 5), 36);
        due("reverse", x.reverse(x.entries() - 2), x.entries());
        due("of(9, 5)", x.of(9, 5), 37);
    }

    static void of() {
        ClientMoneyBook x = with(4, 6);
        x.receive(4, 10000000);
        x.hold(4, 70, 9);
        x.hold(4, 7, 9);
        x.bill(4, 900);
        x.bill(4, 60);
        x.bill(6, 5);
        x.pass(3);
        x.pay(4, 1000);
        x.settle(2);
        // a day's count: 100 * 100000 + 250 * 9900000
        long[] want = {9998940, 77, 9998863, 3 * 2485000000L / 3650000, 900, 3, 2, 1};
        for (int what = 0; what <= 7; what++) {
            due("of(4, " + what + ")", x.of(4, what), want[what]);
        }
        due("of(6, 4)", x.of(6, 4), 5);
        due("of(6, 5)", x.of(6, 5), 0);
        due("of(6, 6)", x.of(6, 6), 0);
        due("of(6, 7)", x.of(6, 7), 1);
        due("of(4, -1)", x.of(4, -1), BAD_VALUE);
        due("of(4, 8)", x.of(4, 8), BAD_VALUE);
        due("of(4, lowest)", x.of(4, LOWEST), BAD_VALUE);
        due("of(4, greatest)", x.of(4, GREATEST), BAD_VALUE);
        due("of(5, 0)", x.of(5, 0), NO_SUCH);
        due("of(5, 8)", x.of(5, 8), NO_SUCH);
        due("of(lowest, 0)", x.of(LOWEST, 0), NO_SUCH);
        // what the count would give is told as 1000000000 at most: 2000 days give 1095890410
        x = with(1);
        fill(x, 1);
        x.setRates(0, 0, 2000);
        for (int i = 0; i < 4; i++) {
            x.pass(400);
        }
        due("of(1, 3)", x.of(1, 3), 2000L * FULL * 1600 / 3650000);
        x.pass(225);
        due("of(1, 3) just to the greatest", x.of(1, 3), FULL);
        x.undo();
        x.pass(224);
        due("of(1, 3)", x.of(1, 3), 2000L * FULL * 1824 / 3650000);
        x.pass(400);
        due("of(1, 3) at most", x.of(1, 3), FULL);
    }

    static void holdOf() {
        ClientMoneyBook x = with(4, 6);
        x.receive(4, 1000);
        x.receive(6, 1000);
        x.pass(1);
        x.hold(6, 30, 5);
        x.hold(4, 40, 999);
        due("holdOf(1, 0)", x.holdOf(1, 0), 6);
        due("holdOf(1, 1)", x.holdOf(1, 1), 30);
        due("holdOf(1, 2)", x.holdOf(1, 2), 6);
        due("holdOf(2, 0)", x.holdOf(2, 0), 4);
        due("holdOf(2, 1)", x.holdOf(2, 1), 40);
        due("holdOf(2, 2)", x.holdOf(2, 2), 1000);
        due("holdOf(1, -1)", x.holdOf(1, -1), BAD_VALUE);
        due("holdOf(1, 3)", x.holdOf(1, 3), BAD_VALUE);
        due("holdOf(1, greatest)", x.holdOf(1, GREATEST), BAD_VALUE);
        due("holdOf(0, 0)", x.holdOf(0, 0), NO_SUCH);
        due("holdOf(3, 0)", x.holdOf(3, 0), NO_SUCH);
        due("holdOf(3, 3)", x.holdOf(3, 3), NO_SUCH);
        due("holdOf(lowest, 0)", x.holdOf(LOWEST, 0), NO_SUCH);
        x.release(1);
        due("holdOf(1, 0)", x.holdOf(1, 0), NO_SUCH);
        due("holdOf(2, 0)", x.holdOf(2, 0), 4);
    }

    static void billOf() {
        ClientMoneyBook x = with(4, 6);
        x.bill(6, 30);
        x.bill(4, 40);
        x.receive(4, 39);
        x.settle(2);
        due("billOf(1, 0)", x.billOf(1, 0), 6);
        due("billOf(1, 1)", x.billOf(1, 1), 30);
        due("billOf(1, 2)", x.billOf(1, 2), 0);
        due("billOf(2, 0)", x.billOf(2, 0), 4);
        due("billOf(2, 1)", x.billOf(2, 1), 1);
        due("billOf(2, 2)", x.billOf(2, 2), 39);
        due("billOf(1, -1)", x.billOf(1, -1), BAD_VALUE);
        due("billOf(1, 3)", x.billOf(1, 3), BAD_VALUE);
        due("billOf(1, lowest)", x.billOf(1, LOWEST), BAD_VALUE);
        due("billOf(0, 0)", x.billOf(0, 0), NO_SUCH);
        due("billOf(3, 3)", x.billOf(3, 3), NO_SUCH);
        due("billOf(greatest, 0)", x.billOf(GREATEST, 0), NO_SUCH);
        x.receive(4, 39);
        x.settle(2);
        due("billOf(2, 2)", x.billOf(2, 2), NO_SUCH);
        due("billOf(1, 0)", x.billOf(1, 0), 6);
    }

    static void entries() {
        ClientMoneyBook x = with(4, 6);
        x.setRates(FULL, 0, 0);
        x.setThreshold(1);
        x.receive(4, 100);
        due("entries()", x.entries(), 1);
        x.hold(4, 5, 1);
        x.release(1);
        x.bill(4, 5);
        due("entries()", x.entries(), 1);
        x.settle(1);
        due("entries()", x.entries(), 2);
        x.transfer(4, 6, 20);
        x.pay(6, 5);
        x.reverse(4);
        due("entries()", x.entries(), 5);
        x.pass(60);
        due("entries()", x.entries(), 5);
        for (int i = 0; i < 30; i++) {
            x.receive(6, 1);
        }
        due("entries()", x.entries(), 35);
        x.undo();
        due("entries()", x.entries(), 34);
    }

    static void entry() {
        ClientMoneyBook x = with(5, 7);
        x.receive(5, 1000);
        x.transfer(5, 7, 300);
        x.pass(3);
        x.pay(7, 100);
        x.reverse(3);
        long[][] want = {
            {0, 1, 5, 0, 1000, (7L * 1009 + 17 + 505 + 1000) % 1000003, 0},
            {0, 3, 5, 7, 300, 663818, 0},
            {3, 2, 7, 0, 100, 791289, 1},
            {3, 6, 7, 0, 100, (791289L * 1009 + 93 + 102 + 707 + 100) % 1000003, 0},
        };
        for (int entry = 1; entry <= 4; entry++) {
            for (int what = 0; what <= 6; what++) {
                due("entry(" + entry + ", " + what + ")", x.entry(entry, what), want[entry - 1][what]);
            }
            due("entry(" + entry + ", -1)", x.entry(entry, -1), BAD_VALUE);
            due("entry(" + entry + ", 7)", x.entry(entry, 7), BAD_VALUE);
        }
        due("entry(1, greatest)", x.entry(1, GREATEST), BAD_VALUE);
        due("entry(0, 0)", x.entry(0, 0), NO_SUCH);
        due("entry(5, 0)", x.entry(5, 0), NO_SUCH);
        due("entry(5, 7)", x.entry(5, 7), NO_SUCH);
        due("entry(-1, 0)", x.entry(-1, 0), NO_SUCH);
        due("entry(lowest, 0)", x.entry(LOWEST, 0), NO_SUCH);
        due("entry(greatest, 0)", x.entry(GREATEST, 0), NO_SUCH);
    }

    static void entryKept() {
        ClientMoneyBook x = with(99);
        for (int i = 1; i <= 60; i++) {
            x.receive(99, MOST);
            x.pay(99, MOST - i);
        }
        int made = x.entries();
        due("entries()", made, 120);
        due("the oldest entry that is kept", x.entry(made - 23, 2), 99);
        due("the entry before it", x.entry(made - 24, 2), NO_SUCH);
        due("the entry before it, wrong what", x.entry(made - 24, 7), NO_SUCH);
        long check = x.entry(made - 23, 5);
        for (int entry = made - 22; entry <= made; entry++) {
            check = (check * 1009 + x.entry(entry, 0) * 31 + x.entry(entry, 1) * 17 + x.entry(entry, 2) * 101
                    + x.entry(entry, 3) * 103 + x.entry(entry, 4)) % 1000003;
            due("entry(" + entry + ", 5)", x.entry(entry, 5), check);
            due("entry(" + entry + ", 6)", x.entry(entry, 6), 0);
        }
    }

    static void sum() {
        ClientMoneyBook x = with(1, 2, 3);
        fill(x, 1);
        fill(x, 2);
        fill(x, 3);
        due("sum(0)", x.sum(0), 3000000000L);
        due("sum(4)", x.sum(4), 3000000000L);
        x.hold(1, MOST, 9);
        x.hold(2, 5, 9);
        due("sum(1)", x.sum(1), MOST + 5);
        x.pay(3, 70);
        x.pay(1, 7);
        due("sum(5)", x.sum(5), 77);
        x.bill(1, 4000);
        x.bill(2, 300);
        x.settle(1);
        x.settle(2);
        due("sum(2)", x.sum(2), 4300);
        x.reverse(31);
        due("sum(5)", x.sum(5), 7);
        x.reverse(30);
        due("sum(4)", x.sum(4), 2900000000L);
        due("sum(0)", x.sum(0), 2900000000L - 7 - 4300);
        x.transfer(3, 2, 200);
        x.reverse(x.entries());
        due("sum(4)", x.sum(4), 2900000000L);
        due("sum(5)", x.sum(5), 7);
        due("sum(3)", x.sum(3), 0);
        long credited = x.pass(30);
        due("sum(3)", x.sum(3), credited);
        credited += x.pass(30);
        due("sum(3)", x.sum(3), credited);
        due("sum(1)", x.sum(1), 0);
        due("sum(-1)", x.sum(-1), BAD_VALUE);
        due("sum(6)", x.sum(6), BAD_VALUE);
        due("sum(lowest)", x.sum(LOWEST), BAD_VALUE);
        due("sum(greatest)", x.sum(GREATEST), BAD_VALUE);
        // what a client had who is gone stays in the sums
        x = with(1);
        x.receive(1, 50);
        x.pay(1, 50);
        x.close(1);
        due("sum(4)", x.sum(4), 50);
        due("sum(5)", x.sum(5), 50);
    }

    static void payableOn() {
        ClientMoneyBook x = with(1, 2);
        x.setRates(0, 0, 0);
        x.pass(4);
        x.receive(1, 100);
        x.receive(2, 5000);
        x.hold(1, 30, 6);
        x.hold(1, 20, 399);
        x.hold(1, 10, 400);
        x.hold(1, 5, 401);
        x.hold(2, 4000, 1);
        long before = x.digest();
        due("payableOn(1, 1)", x.payableOn(1, 1), 4);
        due("payableOn(1, 35)", x.payableOn(1, 35), 4);
        due("payableOn(1, 36)", x.payableOn(1, 36), 11);
        due("payableOn(1, 65)", x.payableOn(1, 65), 11);
        due("payableOn(1, 66)", x.payableOn(1, 66), 404);
        due("payableOn(1, 85)", x.payableOn(1, 85), 404);
        due("payableOn(1, 86)", x.payableOn(1, 86), NONE);
        due("payableOn(1, 101)", x.payableOn(1, 101), NONE);
        due("payableOn(1, most)", x.payableOn(1, MOST), NONE);
        due("payableOn(1, 0)", x.payableOn(1, 0), BAD_VALUE);
        due("payableOn(1, most + 1)", x.payableOn(1, MOST + 1), BAD_VALUE);
        due("payableOn(1, lowest)", x.payableOn(1, LOWEST), BAD_VALUE);
        due("payableOn(3, 1)", x.payableOn(3, 1), NO_SUCH);
        due("payableOn(3, 0)", x.payableOn(3, 0), NO_SUCH);
        due("digest()", x.digest(), before);
        due("saved states", saved(x), 6);
        // interest: 0.003 of the balance each 30 days
        x = with(1);
        x.setRates(FULL, 365, 0);
        x.pass(10);
        x.receive(1, 1000000);
        due("payableOn(1, 1000000)", x.payableOn(1, 1000000), 10);
        // on day 30 there are 20 days: 0.002
        due("payableOn(1, 1000001)", x.payableOn(1, 1000001), 30);
        due("payableOn(1, 1002000)", x.payableOn(1, 1002000), 30);
        due("payableOn(1, 1002001)", x.payableOn(1, 1002001), 60);
        due("payableOn(1, 1005006)", x.payableOn(1, 1005006), 60);
        due("payableOn(1, 1005007)", x.payableOn(1, 1005007), 90);
        x.setThreshold(3000);
        due("payableOn(1, 1000001)", x.payableOn(1, 1000001), 60);
        due("of(1, 0)", x.of(1, 0), 1000000);
    }

    static void payableOnFar() {
        // forecasts go beyond the last day
        ClientMoneyBook x = with(1);
        for (int i = 0; i < 24; i++) {
            x.pass(400);
        }
        x.pass(399);
        x.receive(1, 100000);
        x.hold(1, 500, 5);
        due("payableOn(1, 99500)", x.payableOn(1, 99500), 9999);
        due("payableOn(1, 99501)", x.payableOn(1, 99501), 10005);
        // 10000000 a day: 31 days until day 10020 are more than 20 cents; day 10000 is no multiple of 30
        due("payableOn(1, 100001)", x.payableOn(1, 100001), 10020);
        due("interestIn(1, 20)", x.interestIn(1, 20), 0);
        due("interestIn(1, 21)", x.interestIn(1, 21), 57);
        due("interestIn(1, 380)", x.interestIn(1, 380) > 900 ? 1 : 0, 1);
        due("pass(1)", x.pass(1), LIMIT);
        due("day()", x.day(), 9999);
    }

    static void interestIn() {
        ClientMoneyBook x = with(1, 2);
        x.setRates(FULL, 365, 0);
        x.receive(1, 1000000);
        x.receive(2, 6666);
        x.pass(10);
        long before = x.digest();
        due("interestIn(1, 1)", x.interestIn(1, 1), 0);
        due("interestIn(1, 19)", x.interestIn(1, 19), 0);
        due("interestIn(1, 20)", x.interestIn(1, 20), 3000);
        due("interestIn(1, 49)", x.interestIn(1, 49), 3000);
        due("interestIn(1, 50)", x.interestIn(1, 50), 6009);
        due("interestIn(2, 20)", x.interestIn(2, 20), 0);
        due("interestIn(2, 50)", x.interestIn(2, 50), 39);
        due("interestIn(1, 0)", x.interestIn(1, 0), BAD_VALUE);
        due("interestIn(1, 401)", x.interestIn(1, 401), BAD_VALUE);
        due("interestIn(1, lowest)", x.interestIn(1, LOWEST), BAD_VALUE);
        due("interestIn(1, greatest)", x.interestIn(1, GREATEST), BAD_VALUE);
        due("interestIn(3, 1)", x.interestIn(3, 1), NO_SUCH);
        due("interestIn(3, 0)", x.interestIn(3, 0), NO_SUCH);
        due("digest()", x.digest(), before);
        int ahead = x.interestIn(1, 400) + x.interestIn(2, 400);
        due("pass(400) credits what was foretold", x.pass(400), ahead);
        x = with(1);
        fill(x, 1);
        x.pay(1, 50);
        due("interestIn(1, 400) up to the greatest balance", x.interestIn(1, 400), 50);
    }

    static void typeCharacters() {
        ClientMoneyBook x = new ClientMoneyBook();
        due("type(32)", x.type(32), BAD_VALUE);
        due("type(127)", x.type(127), BAD_VALUE);
        due("type(-1)", x.type(-1), BAD_VALUE);
        due("type(lowest)", x.type(LOWEST), BAD_VALUE);
        due("type(greatest)", x.type(GREATEST), BAD_VALUE);
        due("type(65536 + 'r')", x.type(65536 + 'r'), BAD_VALUE);
        due("type(33)", x.type(33), 1);
        due("type(126)", x.type(126), 2);
        for (int i = 3; i <= 80; i++) {
            due("type('r')", x.type('r'), i);
        }
        due("type('r') as the 81st", x.type('r'), LIMIT);
        due("type(32) as the 81st", x.type(32), BAD_VALUE);
        due("undo()", x.undo(), NOT_POSSIBLE);
        due("clearText()", x.clearText(), 80);
    }

    static void clearText() {
        ClientMoneyBook x = new ClientMoneyBook();
        due("clearText()", x.clearText(), 0);
        type(x, "d1;");
        due("clearText()", x.clearText(), 3);
        due("clearText()", x.clearText(), 0);
        due("undo()", x.undo(), NOT_POSSIBLE);
        type(x, "d1");
        due("syntaxError()", x.syntaxError(), NONE);
    }

    static void syntaxOf(String text, int want) {
        ClientMoneyBook x = new ClientMoneyBook();
        type(x, text);
        due("syntaxError() of " + text, x.syntaxError(), want);
        due("syntaxError() of " + text + " again", x.syntaxError(), want);
        due("clearText()", x.clearText(), text.length());
    }

    static void syntaxError() {
        String[] whole = {"r1:1", "p1:1", "t1>2:3", "b1:1", "s1", "d1", "r000001:999999", "d000000", "s0",
            "t123456>123456:123456;t1>2:3", "r1:1;p1:1;t1>2:3;b1:1;s1;d1", "d1;d1;d1"};
        for (String text : whole) {
            syntaxOf(text, NONE);
        }
        String[] open = {"", "r", "r1", "r1:", "p", "p123456", "p1:", "t", "t1", "t1>", "t1>2", "t1>2:", "b", "b1",
            "b1:", "s", "d", "d1;", "r1:1;", "r1:1;t1>123456", "s1;s"};
        for (String text : open) {
            syntaxOf(text, text.length());
        }
        String[] marked = {"|x", "|1", "|;", "|:", "|R1:1", "r|:", "r|r", "r|;", "r1|;", "r1|>", "r1|r", "r1:|:",
            "r1:|;", "r1:1|:", "r1:1|r", "r1:1;|;", "r123456|7:1", "t1|:", "t1|;", "t1>|>", "t1>2|>", "t1>2|;",
            "t1>2:3|:", "t1>2:3|>", "s1|:", "s1|>", "d|-1", "d1|d1", "s|;", "d1;|1", "p1:1|,p1:1", "b1|>1",
            "p12345|x", "d123456|7", "r1:123456|7", "t123456|7>1:1", "t1>123456|7", "t1>1:123456|7", "d1;|x;r"};
        for (String text : marked) {
            syntaxOf(text.replace("|", ""), text.indexOf('|'));
        }
        StringBuilder full = new StringBuilder();
        for (int i = 0; i < 26; i++) {
            full.append("d1;");
        }
        syntaxOf(full + "s1", NONE);
        syntaxOf(full + "s", 79);
        syntaxOf(full + "s;", 79);
        syntaxOf(full + "t9", 80);
    }

    static void carryOut() {
        ClientMoneyBook x = new ClientMoneyBook();
        due("carryOut() of the empty text", x.carryOut(), BAD_TEXT);
        type(x, "d1;");
        due("carryOut() of d1;", x.carryOut(), BAD_TEXT);
        due("day()", x.day(), 0);
        due("undo()", x.undo(), NOT_POSSIBLE);
        due("the text stays", x.type('2'), 4);
        due("carryOut() of d1;2", x.carryOut(), BAD_TEXT);
        due("clearText()", x.clearText(), 4);
        x = with(1, 20);
        type(x, "r1:5000;p000001:100;t1>20:900;b20:1000;s1;d31;r020:000007;d1");
        due("carryOut()", x.carryOut(), 8);
        due("of(1, 0)", x.of(1, 0), 4000);
        due("of(20, 0)", x.of(20, 0), 7);
        due("billOf(1, 2)", x.billOf(1, 2), 900);
        due("sum(2)", x.sum(2), 900);
        due("sum(4)", x.sum(4), 5007);
        due("sum(5)", x.sum(5), 100);
        due("day()", x.day(), 32);
        due("entries()", x.entries(), 5);
        due("clearText()", x.clearText(), 0);
        due("undo()", x.undo(), 2);
        due("day()", x.day(), 0);
        due("entries()", x.entries(), 0);
        due("of(1, 0)", x.of(1, 0), 0);
        due("the text is not restored", x.clearText(), 0);
        due("bill(1, 5)", x.bill(1, 5), 1);
        type(x, "r1:999999;p1:999999;d400");
        due("carryOut()", x.carryOut(), 3);
        due("day()", x.day(), 400);
    }

    static void carryOutStops() {
        String[] stops = {"d0", "d401", "r2:1", "r1:0", "p1:6", "t1>2:1", "t1>1:1", "b1:0", "s1", "d999999"};
        for (String stop : stops) {
            ClientMoneyBook x = with(1);
            type(x, "r1:5;" + stop + ";r1:7");
            due("carryOut() with " + stop, x.carryOut(), 1);
            due("of(1, 0)", x.of(1, 0), 5);
            due("day()", x.day(), 0);
            due("clearText()", x.clearText(), 0);
            due("undo()", x.undo(), 1);
            due("of(1, 0)", x.of(1, 0), 0);
            type(x, stop);
            due("carryOut() of " + stop, x.carryOut(), 0);
            due("clearText()", x.clearText(), 0);
            due("one state is saved", x.undo(), 1);
            due("clients()", x.clients(), 1);
        }
    }

    static void undo() {
        ClientMoneyBook x = new ClientMoneyBook();
        due("undo()", x.undo(), NOT_POSSIBLE);
        for (int i = 1; i <= 8; i++) {
            x.open(i);
        }
        for (int left = 5; left >= 0; left--) {
            due("undo()", x.undo(), left);
            due("clients()", x.clients(), 2 + left);
        }
        due("undo()", x.undo(), NOT_POSSIBLE);
        due("clients()", x.clients(), 2);
        x.open(50);
        type(x, "abc");
        due("undo()", x.undo(), 0);
        due("the text stays", x.clearText(), 3);
        due("ranked(0, 1)", x.ranked(0, 1), 2);
        // saving and undoing in turn
        for (int round = 0; round < 10; round++) {
            long before = x.digest();
            x.open(60);
            x.receive(60, 5);
            due("undo()", x.undo(), 1);
            due("undo()", x.undo(), 0);
            due("digest()", x.digest(), before);
        }
    }

    static void undoRestoresAll() {
        ClientMoneyBook x = with(1, 2);
        x.setRates(5000, 365, 730);
        x.setThreshold(1);
        x.receive(1, 90000);
        x.hold(1, 1000, 40);
        x.bill(1, 2000);
        x.pass(31);
        long[] digests = new long[7];
        int calls = 0;
        digests[calls++] = x.digest();
        x.settle(1);
        digests[calls++] = x.digest();
        x.setRates(1, 2, 3);
        digests[calls++] = x.digest();
        x.setThreshold(77);
        digests[calls++] = x.digest();
        x.reverse(x.entries() - 2);
        x.pass(400);
        digests[calls++] = x.digest();
        x.release(1);
        x.close(2);
        for (int i = calls - 1; i >= 0; i--) {
            due("undo() to call " + i, x.undo() >= 0 ? 1 : 0, 1);
            due("digest() at call " + i, x.digest(), digests[i]);
            if (i == 3) {
                due("the threshold of before", x.setThreshold(77), 77);
                x.undo();
            }
        }
        due("the limit of before", x.setRates(5000, 365, 730), 5000);
        due("the threshold of before", x.setThreshold(1), 1);
    }

    static long plainDigest(ClientMoneyBook x, int holds, int bills) {
        long h = 202;
        h = 31 * h + x.day();
        h = 31 * h + x.clients();
        for (int rank = 0; rank < x.clients(); rank++) {
            h = 31 * h + x.ranked(0, rank);
            for (int what = 0; what <= 7; what++) {
                h = 31 * h + x.of(x.ranked(0, rank), what);
            }
        }
        for (int hold = 1; hold <= holds; hold++) {
            if (x.holdOf(hold, 0) >= 0) {
                h = 31 * h + hold;
                for (int what = 0; what <= 2; what++) {
                    h = 31 * h + x.holdOf(hold, what);
                }
            }
        }
        for (int bill = 1; bill <= bills; bill++) {
            if (x.billOf(bill, 0) >= 0) {
                h = 31 * h + bill;
                for (int what = 0; what <= 2; what++) {
                    h = 31 * h + x.billOf(bill, what);
                }
            }
        }
        h = 31 * h + x.entries();
        for (int entry = Math.max(1, x.entries() - 23); entry <= x.entries(); entry++) {
            for (int what = 0; what <= 6; what++) {
                h = 31 * h + x.entry(entry, what);
            }
        }
        for (int order = 1; order <= 3; order++) {
            for (int rank = 0; rank < x.clients(); rank++) {
                h = 31 * h + x.ranked(order, rank);
            }
        }
        for (int what = 0; what <= 5; what++) {
            h = 31 * h + x.sum(what);
        }
        return h;
    }

    static void digest() {
        ClientMoneyBook x = with(30, 10, 20);
        due("digest()", x.digest(), plainDigest(x, 0, 0));
        x.receive(30, 500000);
        x.pass(1);
        x.receive(10, 700000);
        x.hold(30, 5, 4);
        x.hold(10, 6, 5);
        x.hold(10, 7, 90);
        x.bill(20, 8);
        x.bill(10, 9);
        due("digest()", x.digest(), plainDigest(x, 3, 2));
        x.settle(2);
        x.release(2);
        x.pay(30, 40);
        x.reverse(1);
        x.transfer(10, 20, 4);
        x.pass(70);
        due("digest()", x.digest(), plainDigest(x, 3, 2));
        for (int i = 0; i < 30; i++) {
            x.receive(20, 100 + i);
        }
        x.settle(1);
        due("digest()", x.digest(), plainDigest(x, 3, 2));
        due("digest() again", x.digest(), plainDigest(x, 3, 2));
        type(x, "d1");
        due("digest() without the text", x.digest(), plainDigest(x, 3, 2));
    }
}
