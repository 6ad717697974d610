/** For each promise of the document: ordinary inputs, the edges that it names, and wrong inputs. */
public final class PromiseTests {
    private static final int UNKNOWN = PeerNotes.UNKNOWN;
    private static final int BAD_VALUE = PeerNotes.BAD_VALUE;
    private static final int FULL = PeerNotes.FULL;
    private static final int NOT_POSSIBLE = PeerNotes.NOT_POSSIBLE;
    private static final int NONE = PeerNotes.NONE;
    private static final int MOST = 2147483647;
    private static final int LEAST = -2147483648;

    private static int promise = 0;
    private static int wrong = 0;

    private static void due(String call, long got, long want) {
        if (got != want) {
            wrong++;
            System.out.println("promise " + promise + ": " + call + " answered " + got + ", due is " + want);
        }
    }

    public static void main(String[] args) {
        promise = 0;
        constants();
        promise = 1;
        newObject();
        promise = 2;
        addInvestor();
        promise = 3;
        deposit();
        promise = 4;
        setPoolShare();
        promise = 5;
        openLoan();
        promise = 6;
        fund();
        fundToTheLastNote();
        promise = 7;
        giveUp();
        giveUpAfterPayment();
        promise = 8;
        pay();
        payErrors();
        payShares();
        payAfterUndo();
        promise = 9;
        cure();
        promise = 10;
        sell();
        sellWithPool();
        sellByLacks();
        sellErrors();
        promise = 11;
        switchServicer();
        promise = 12;
        sellNote();
        promise = 13;
        pass();
        passReckoning();
        promise = 14;
        type();
        promise = 15;
        clearText();
        promise = 16;
        readFundings();
        readFaults();
        readErrors();
        promise = 17;
        undo();
        promise = 18;
        keep();
        promise = 19;
        restore();
        restoreOverOthers();
        promise = 20;
        investor();
        promise = 21;
        loan();
        promise = 22;
        note();
        promise = 23;
        split();
        promise = 24;
        toRepay();
        promise = 25;
        servicer();
        promise = 26;
        count();
        fullHouse();
        System.out.println(wrong == 0 ? "all answers are as due" : wrong + " answers are not as due");
        if (wrong != 0) {
            System.exit(1);
        }
    }

    // ---- helpers

    /** What is told of everything but the text and the history, in one number. */
    private static long told(PeerNotes x) {
        return Markets.told(x).hashCode();
    }

    // ---- the promises

    private static void constants() {
        due("UNKNOWN", PeerNotes.UNKNOWN, -1);
        due("BAD_VALUE", PeerNotes.BAD_VALUE, -2);
        due("FULL", PeerNotes.FULL, -3);
        due("NOT_POSSIBLE", PeerNotes.NOT_POSSIBLE, -4);
        due("NONE", PeerNotes.NONE, -5);
    }

    private static void newObject() {
        PeerNotes x = new PeerNotes();
        for (int what = 0; what <= 17; what++) {
            due("count(" + what + ")", x.count(what), what == 10 ? 5 : 0);
        }
        due("investor(0, 0)", x.investor(0, 0), UNKNOWN);
        due("loan(0, 0)", x.loan(0, 0), UNKNOWN);
        due("note(0, 0)", x.note(0, 0), UNKNOWN);
        for (int servicer = 0; servicer < 4; servicer++) {
            due("servicer(" + servicer + ", 1)", x.servicer(servicer, 1), 0);
            due("servicer(" + servicer + ", 2)", x.servicer(servicer, 2), 0);
        }
        due("undo()", x.undo(), NONE);
        due("restore()", x.restore(), NONE);
        due("clearText()", x.clearText(), 0);
        PeerNotes other = new PeerNotes();
        x.addInvestor(5);
        due("count(1) of another object", other.count(1), 0);
    }

    private static void addInvestor() {
        PeerNotes x = new PeerNotes();
        due("addInvestor(-1)", x.addInvestor(-1), BAD_VALUE);
        due("addInvestor(LEAST)", x.addInvestor(LEAST), BAD_VALUE);
        due("count(16)", x.count(16), 0);
        due("addInvestor(0)", x.addInvestor(0), 0);
        due("addInvestor(MOST)", x.addInvestor(MOST), 1);
        due("investor(0, 0)", x.investor(0, 0), 0);
        due("investor(1, 0)", x.investor(1, 0), MOST);
        for (int i = 2; i < 8; i++) {
            due("addInvestor", x.addInvestor(i), i);
            due("investor(" + i + ", 0)", x.investor(i, 0), i);
        }
        due("addInvestor(1), the ninth", x.addInvestor(1), FULL);
        due("addInvestor(-1), the ninth", x.addInvestor(-1), BAD_VALUE);
        due("count(1)", x.count(1), 8);
        due("undo()", x.undo(), 3);
        due("count(1)", x.count(1), 7);
        due("addInvestor(77)", x.addInvestor(77), 7);
        due("investor(7, 0)", x.investor(7, 0), 77);
        due("investor(7, 4)", x.investor(7, 4), 0);
    }

    private static void deposit() {
        PeerNotes x = new PeerNotes();
        due("deposit(0, 1)", x.deposit(0, 1), UNKNOWN);
        x.addInvestor(100);
        due("deposit(-1, 1)", x.deposit(-1, 1), UNKNOWN);
        due("deposit(1, 1)", x.deposit(1, 1), UNKNOWN);
        due("deposit(1, 0)", x.deposit(1, 0), UNKNOWN);
        due("deposit(MOST, 1)", x.deposit(MOST, 1), UNKNOWN);
        due("deposit(LEAST, 1)", x.deposit(LEAST, 1), UNKNOWN);
        due("deposit(0, 0)", x.deposit(0, 0), BAD_VALUE);
        due("deposit(0, -5)", x.deposit(0, -5), BAD_VALUE);
        due("deposit(0, LEAST)", x.deposit(0, LEAST), BAD_VALUE);
        due("deposit(0, 1)", x.deposit(0, 1), 101);
        due("deposit(0, MOST)", x.deposit(0, MOST), FULL);
        due("deposit(0, MOST - 100)", x.deposit(0, MOST - 100), FULL);
        due("investor(0, 0)", x.investor(0, 0), 101);
        due("count(16)", x.count(16), 2);
        due("deposit(0, MOST - 101)", x.deposit(0, MOST - 101), MOST);
        due("deposit(0, 1)", x.deposit(0, 1), FULL);
        due("deposit(0, 0)", x.deposit(0, 0), BAD_VALUE);
        due("undo()", x.undo(), 2);
        due("investor(0, 0)", x.investor(0, 0), 101);
    }

    private static void setPoolShare() {
        PeerNotes x = new PeerNotes();
        due("setPoolShare(-1)", x.setPoolShare(-1), BAD_VALUE);
        due("setPoolShare(51)", x.setPoolShare(51), BAD_VALUE);
        due("setPoolShare(5)", x.setPoolShare(5), NONE);
        due("count(16)", x.count(16), 0);
        due("setPoolShare(0)", x.setPoolShare(0), 5);
        due("setPoolShare(0)", x.setPoolShare(0), NONE);
        due("setPoolShare(50)", x.setPoolShare(50), 0);
        due("count(10)", x.count(10), 50);
        due("count(16)", x.count(16), 2);
        due("undo()", x.undo(), 1);
        due("count(10)", x.count(10), 0);
    }

    private static void openLoan() {
        PeerNotes x = new PeerNotes();
        int[][] bad = {{99, 0, 1}, {100000, 0, 1}, {100, -1, 1}, {100, 51, 1}, {100, 0, 0}, {100, 0, 37},
            {LEAST, 0, 1}, {MOST, 0, 1}, {100, MOST, 1}, {100, 0, MOST}, {100, LEAST, 1}, {100, 0, LEAST}};
        for (int[] row : bad) {
            due("openLoan(" + row[0] + ", " + row[1] + ", " + row[2] + ")",
                x.openLoan(row[0], row[1], row[2]), BAD_VALUE);
        }
        due("count(2)", x.count(2), 0);
        due("count(16)", x.count(16), 0);
        due("openLoan(100, 0, 1)", x.openLoan(100, 0, 1), 0);
        due("openLoan(99999, 50, 36)", x.openLoan(99999, 50, 36), 1);
        due("loan(1, 0)", x.loan(1, 0), 0);
        due("loan(1, 1)", x.loan(1, 1), 99999);
        due("loan(1, 2)", x.loan(1, 2), 0);
        due("loan(1, 3)", x.loan(1, 3), NONE);
        due("loan(1, 7)", x.loan(1, 7), 0);
        due("loan(1, 8)", x.loan(1, 8), NONE);
        due("loan(1, 9)", x.loan(1, 9), 99999);
        for (int i = 2; i < 10; i++) {
            due("openLoan, number " + i, x.openLoan(100 + i, 1, 2), i);
        }
        due("openLoan, the eleventh", x.openLoan(100, 1, 2), FULL);
        due("openLoan(99, 1, 2), the eleventh", x.openLoan(99, 1, 2), BAD_VALUE);
        due("count(2)", x.count(2), 10);
        due("undo()", x.undo(), 3);
        due("openLoan(500, 1, 2)", x.openLoan(500, 1, 2), 9);
        due("loan(9, 1)", x.loan(9, 1), 500);
    }

    private static void fund() {
        PeerNotes x = new PeerNotes();
        x.addInvestor(300);
        x.addInvestor(100000);
        x.openLoan(1000, 20, 3);
        due("fund(-1, 0, false, 1)", x.fund(-1, 0, false, 1), UNKNOWN);
        due("fund(2, 0, false, 1)", x.fund(2, 0, false, 1), UNKNOWN);
        due("fund(0, -1, false, 1)", x.fund(0, -1, false, 1), UNKNOWN);
        due("fund(0, 1, false, 1)", x.fund(0, 1, false, 1), UNKNOWN);
        due("fund(0, 1, false, 0)", x.fund(0, 1, false, 0), UNKNOWN);
        due("fund(0, 0, false, 0)", x.fund(0, 0, false, 0), BAD_VALUE);
        due("fund(0, 0, false, -1)", x.fund(0, 0, false, -1), BAD_VALUE);
        due("fund(1, 0, false, 100000)", x.fund(1, 0, false, 100000), BAD_VALUE);
        due("fund(1, 0, false, 99999)", x.fund(1, 0, false, 99999), NOT_POSSIBLE);
        due("fund(1, 0, false, 1001)", x.fund(1, 0, false, 1001), NOT_POSSIBLE);
        due("fund(0, 0, false, 301)", x.fund(0, 0, false, 301), NOT_POSSIBLE);
        due("count(8)", x.count(8), 0);
        due("count(16)", x.count(16), 3);
        due("fund(0, 0, true, 300)", x.fund(0, 0, true, 300), 700);
        due("fund(0, 0, true, 1)", x.fund(0, 0, true, 1), NOT_POSSIBLE);
        due("investor(0, 0)", x.investor(0, 0), 0);
        due("note(0, 2)", x.note(0, 2), 1);
        due("fund(1, 0, false, 701)", x.fund(1, 0, false, 701), NOT_POSSIBLE);
        due("fund(1, 0, false, 699)", x.fund(1, 0, false, 699), 1);
        due("loan(0, 0)", x.loan(0, 0), 0);
        due("fund(1, 0, false, 1)", x.fund(1, 0, false, 1), 0);
        due("loan(0, 0)", x.loan(0, 0), 1);
        due("loan(0, 2)", x.loan(0, 2), 1000);
        due("loan(0, 3)", x.loan(0, 3), 334);
        due("loan(0, 4)", x.loan(0, 4), 0);
        due("loan(0, 5)", x.loan(0, 5), 0);
        due("loan(0, 6)", x.loan(0, 6), 0);
        due("note(2, 2)", x.note(2, 2), 0);
        due("note(2, 3)", x.note(2, 3), 1);
        due("investor(1, 0)", x.investor(1, 0), 99300);
        due("fund(1, 0, false, 1) when it runs", x.fund(1, 0, false, 1), NOT_POSSIBLE);
        due("undo()", x.undo(), 3);
        due("loan(0, 0)", x.loan(0, 0), 0);
        due("loan(0, 9)", x.loan(0, 9), 1);
        due("investor(1, 0)", x.investor(1, 0), 99301);
        x.giveUp(0);
        due("fund(1, 0, false, 1) when it is given up", x.fund(1, 0, false, 1), NOT_POSSIBLE);
    }

    private static void fundToTheLastNote() {
        PeerNotes x = new PeerNotes();
        x.addInvestor(100);
        x.openLoan(1000, 0, 1);
        for (int i = 0; i < 60; i++) {
            due("fund, number " + i, x.fund(0, 0, i % 2 == 1, 1), 999 - i);
        }
        due("fund(0, 0, false, 1), the 61st", x.fund(0, 0, false, 1), FULL);
        due("fund(0, 0, false, 41), the 61st", x.fund(0, 0, false, 41), NOT_POSSIBLE);
        due("fund(0, 0, false, 0), the 61st", x.fund(0, 0, false, 0), BAD_VALUE);
        due("fund(1, 0, false, 1), the 61st", x.fund(1, 0, false, 1), UNKNOWN);
        due("count(8)", x.count(8), 60);
        due("note(59, 2)", x.note(59, 2), 1);
        due("giveUp(0)", x.giveUp(0), 60);
        x.openLoan(100, 0, 1);
        due("fund(0, 1, false, 1): old notes take room", x.fund(0, 1, false, 1), FULL);
    }

    private static void giveUp() {
        PeerNotes x = new PeerNotes();
        due("giveUp(0)", x.giveUp(0), UNKNOWN);
        x.addInvestor(1000);
        x.addInvestor(500);
        x.openLoan(800, 10, 4);
        x.openLoan(100, 10, 4);
        x.fund(0, 0, false, 300);
        x.fund(1, 0, true, 200);
        x.fund(0, 0, true, 50);
        due("giveUp(-1)", x.giveUp(-1), UNKNOWN);
        due("giveUp(2)", x.giveUp(2), UNKNOWN);
        due("giveUp(0)", x.giveUp(0), 550);
        due("investor(0, 0)", x.investor(0, 0), 1000);
        due("investor(1, 0)", x.investor(1, 0), 500);
        due("loan(0, 0)", x.loan(0, 0), 4);
        due("loan(0, 9)", x.loan(0, 9), 0);
        due("loan(0, 10)", x.loan(0, 10), 3);
        due("loan(0, 3)", x.loan(0, 3), NONE);
        due("note(0, 3)", x.note(0, 3), 0);
        due("note(0, 4)", x.note(0, 4), 300);
        due("note(0, 6)", x.note(0, 6), 0);
        due("giveUp(0)", x.giveUp(0), NOT_POSSIBLE);
        due("giveUp(1) without notes", x.giveUp(1), 0);
        due("loan(1, 0)", x.loan(1, 0), 4);
        due("undo()", x.undo(), 3);
        due("undo()", x.undo(), 2);
        due("note(0, 3)", x.note(0, 3), 300);
        due("deposit", x.deposit(1, MOST - 300 - 199), MOST - 199);
        due("giveUp(0) without room", x.giveUp(0), FULL);
        due("loan(0, 0)", x.loan(0, 0), 0);
        due("investor(0, 0)", x.investor(0, 0), 650);
        due("undo()", x.undo(), 2);
        due("deposit", x.deposit(1, MOST - 300 - 200), MOST - 200);
        due("giveUp(0) to the last room", x.giveUp(0), 550);
        due("investor(1, 0)", x.investor(1, 0), MOST);

        PeerNotes running = Markets.running(100, 0, 1);
        due("giveUp(0) when it runs", running.giveUp(0), NOT_POSSIBLE);
    }

    private static void giveUpAfterPayment() {
        PeerNotes x = Markets.seniorAndJunior();
        x.openLoan(500, 0, 1);
        x.fund(0, 1, false, 100);
        x.pass(1);
        x.pay(0, 90);
        int interest = x.note(0, 5);
        int cash = x.investor(0, 0);
        due("giveUp(1)", x.giveUp(1), 100);
        due("note(0, 5)", x.note(0, 5), interest);
        due("investor(0, 4)", x.investor(0, 4), interest);
        due("investor(0, 0)", x.investor(0, 0), cash + 100);
    }

    private static void pay() {
        PeerNotes x = Markets.seniorAndJunior();
        x.pass(1);
        // Interest 50, principal 100 are due; the fee of 141 is 0, 50 are interest, 91 are principal.
        due("pay(0, 141)", x.pay(0, 141), 909);
        due("loan(0, 4)", x.loan(0, 4), 0);
        due("loan(0, 5)", x.loan(0, 5), 9);
        due("count(9)", x.count(9), 2);
        // 48 by 600 and 400: 28 and 19, and one more for the first.
        due("note(0, 5)", x.note(0, 5), 29);
        due("note(1, 5)", x.note(1, 5), 19);
        due("note(0, 3)", x.note(0, 3), 509);
        due("note(1, 3)", x.note(1, 3), 400);
        due("investor(0, 0)", x.investor(0, 0), 9400 + 29 + 91);
        due("investor(1, 0)", x.investor(1, 0), 9600 + 19);
        due("investor(0, 4)", x.investor(0, 4), 29);
        due("servicer(0, 1)", x.servicer(0, 1), 0);
        x.pass(1);
        due("loan(0, 6)", x.loan(0, 6), 1);
        // Interest 45, principal 109 are due; the fee of 155 is 0.
        due("pay(0, 44)", x.pay(0, 44), 909);
        due("loan(0, 4)", x.loan(0, 4), 1);
        due("loan(0, 6)", x.loan(0, 6), 1);
        due("pay(0, 109)", x.pay(0, 109), 801);
        due("loan(0, 6): principal is due still", x.loan(0, 6), 1);
        due("loan(0, 5)", x.loan(0, 5), 1);
        due("pay(0, 1)", x.pay(0, 1), 800);
        due("loan(0, 6)", x.loan(0, 6), 0);
        // Nothing is due: all is principal, of the seniors first; the fee of 503 is 2.
        due("pay(0, 503)", x.pay(0, 503), 299);
        due("servicer(0, 1)", x.servicer(0, 1), 2);
        due("note(0, 3)", x.note(0, 3), 0);
        due("note(1, 3)", x.note(1, 3), 299);
        due("loan(0, 5)", x.loan(0, 5), 0);
        x.pass(1);
        // Only the junior note has a weight now: 14 of interest, 0 of it to the pool. Before, it got 19, 18 of 42, 0 of 1.
        due("loan(0, 4)", x.loan(0, 4), 14);
        int before = x.note(0, 5);
        due("pay(0, 14)", x.pay(0, 14), 299);
        due("note(0, 5)", x.note(0, 5), before);
        due("note(1, 5)", x.note(1, 5), 19 + 18 + 14);
        x.switchServicer(0, 2);
        due("pay(0, 300)", x.pay(0, 300), 0);
        due("loan(0, 0)", x.loan(0, 0), 2);
        due("loan(0, 8): the order is gone", x.loan(0, 8), NONE);
        due("loan(0, 6)", x.loan(0, 6), 0);
        due("loan(0, 5)", x.loan(0, 5), 0);
        due("loan(0, 3)", x.loan(0, 3), 100);
        due("pay(0, 1) when it is repaid", x.pay(0, 1), NOT_POSSIBLE);
        due("undo()", x.undo(), 3);
        due("loan(0, 8)", x.loan(0, 8), 2);
        due("loan(0, 2)", x.loan(0, 2), 299);
    }

    private static void payErrors() {
        PeerNotes x = Markets.seniorAndJunior();
        x.openLoan(100, 0, 1);
        due("pay(-1, 1)", x.pay(-1, 1), UNKNOWN);
        due("pay(2, 0)", x.pay(2, 0), UNKNOWN);
        due("pay(0, 0)", x.pay(0, 0), BAD_VALUE);
        due("pay(0, -1)", x.pay(0, -1), BAD_VALUE);
        due("pay(0, 200000)", x.pay(0, 200000), BAD_VALUE);
        due("pay(0, MOST)", x.pay(0, MOST), BAD_VALUE);
        due("pay(1, 0)", x.pay(1, 0), BAD_VALUE);
        due("pay(1, 1) in funding", x.pay(1, 1), NOT_POSSIBLE);
        due("pay(0, 199999)", x.pay(0, 199999), NOT_POSSIBLE);
        // 1005 less the fee of 5 is 1000, 1006 less 5 is 1001.
        due("pay(0, 1006)", x.pay(0, 1006), NOT_POSSIBLE);
        due("count(16)", x.count(16), 4);
        due("deposit", x.deposit(1, MOST - 9600 - 399), MOST - 399);
        long told = told(x);
        due("pay(0, 1005) without room", x.pay(0, 1005), FULL);
        due("pay(0, 1006) without room", x.pay(0, 1006), NOT_POSSIBLE);
        due("told", told(x), told);
        // The last coin has no room only for the junior note.
        due("pay(0, 1003)", x.pay(0, 1003), 2);
        due("investor(1, 0)", x.investor(1, 0), MOST - 1);
        due("pay(0, 2)", x.pay(0, 2), FULL);
        due("pay(0, 1)", x.pay(0, 1), 1);
        due("investor(1, 0)", x.investor(1, 0), MOST);

        PeerNotes y = Markets.seniorAndJunior();
        y.pass(1);
        y.deposit(1, MOST - 9600 - 18);
        // The interest of the junior note is 19: no room for it, though principal goes to the senior one only.
        due("pay(0, 141) without room for interest", y.pay(0, 141), FULL);
        due("pay(0, 1)", y.pay(0, 1), 1000);

        PeerNotes z = new PeerNotes();
        z.addInvestor(1000);
        z.openLoan(1000, 0, 1);
        z.fund(0, 0, false, 500);
        z.fund(0, 0, true, 500);
        z.deposit(0, MOST - 999);
        // Each note would have room, both have not.
        due("pay(0, 1005), two notes of one investor", z.pay(0, 1005), FULL);
        due("pay(0, 1004)", z.pay(0, 1004), 1);
    }

    private static void payShares() {
        PeerNotes x = new PeerNotes();
        x.addInvestor(1000);
        x.addInvestor(1000);
        x.addInvestor(1000);
        x.openLoan(100, 0, 1);
        x.openLoan(100, 0, 1);
        x.setPoolShare(0);
        x.fund(2, 0, true, 25);
        x.fund(0, 0, false, 25);
        x.fund(1, 1, false, 100);
        x.fund(1, 0, false, 25);
        x.fund(0, 0, false, 25);
        // 10 among three seniors of 25: 3 each, and one more for the first one of them, note 1.
        due("pay(0, 10)", x.pay(0, 10), 90);
        due("note(0, 3)", x.note(0, 3), 25);
        due("note(1, 3)", x.note(1, 3), 21);
        due("note(2, 3)", x.note(2, 3), 100);
        due("note(3, 3)", x.note(3, 3), 22);
        due("note(4, 3)", x.note(4, 3), 22);
        // 64 of the seniors are left by 65 - 0: 65 to the seniors, then 10 to the junior.
        due("pay(0, 75)", x.pay(0, 75), 15);
        due("note(1, 3)", x.note(1, 3), 0);
        due("note(4, 3)", x.note(4, 3), 0);
        due("note(0, 3)", x.note(0, 3), 15);
        due("investor(2, 0)", x.investor(2, 0), 1000 - 25 + 10);

        // The last coin.
        PeerNotes z = Markets.running(100, 0, 1);
        due("pay(0, 99)", z.pay(0, 99), 1);
        due("pay(0, 1)", z.pay(0, 1), 0);
        due("note(0, 3)", z.note(0, 3), 0);
        due("investor(0, 0)", z.investor(0, 0), 200000);

        // Interest that is greater than the weights together, and the greatest amounts.
        PeerNotes y = new PeerNotes();
        y.addInvestor(MOST - 1000000);
        y.openLoan(99999, 50, 36);
        y.fund(0, 0, false, 49999);
        y.fund(0, 0, true, 50000);
        for (int i = 0; i < 10; i++) {
            y.pass(24);
        }
        due("loan(0, 4)", y.loan(0, 4), 240 * 4999);
        due("loan(0, 5)", y.loan(0, 5), 99999);
        due("loan(0, 6)", y.loan(0, 6), 239);
        // The fee is 999, the pool gets 5 of 100 of 199000: 9950; 189050 by 49999 and 50000.
        due("pay(0, 199999)", y.pay(0, 199999), 99999);
        due("servicer(0, 1)", y.servicer(0, 1), 999);
        due("count(9)", y.count(9), 9950);
        due("note(0, 5)", y.note(0, 5), 94525);
        due("note(1, 5)", y.note(1, 5), 94525);
        due("loan(0, 4)", y.loan(0, 4), 240 * 4999 - 199000);
    }

    private static void payAfterUndo() {
        PeerNotes x = Markets.seniorAndJunior();
        x.keep();
        x.openLoan(900, 50, 1);
        x.fund(0, 1, true, 900);
        due("pay(1, 450)", x.pay(1, 450), 452);
        due("restore()", x.restore(), 2);
        // Only the notes that are there have a weight: 600 and 400.
        x.pass(1);
        due("pay(0, 20)", x.pay(0, 20), 1000);
        due("note(0, 5)", x.note(0, 5), 12);
        due("note(1, 5)", x.note(1, 5), 7);
    }

    private static void cure() {
        PeerNotes x = Markets.seniorAndJunior();
        x.openLoan(100, 0, 1);
        due("cure(-1, 1)", x.cure(-1, 1), UNKNOWN);
        due("cure(2, 0)", x.cure(2, 0), UNKNOWN);
        due("cure(0, 0)", x.cure(0, 0), BAD_VALUE);
        due("cure(1, 37)", x.cure(1, 37), BAD_VALUE);
        due("cure(1, 1) in funding", x.cure(1, 1), NOT_POSSIBLE);
        due("cure(0, 1) not in arrears", x.cure(0, 1), NOT_POSSIBLE);
        x.pass(1);
        due("cure(0, 1): due, but not in arrears", x.cure(0, 1), NOT_POSSIBLE);
        x.pass(1);
        due("cure(0, 1): interest is due", x.cure(0, 1), NOT_POSSIBLE);
        due("pay(0, 99)", x.pay(0, 99), 1000);
        due("cure(0, 1): interest of 1 is due", x.cure(0, 1), NOT_POSSIBLE);
        due("pay(0, 2)", x.pay(0, 2), 999);
        due("loan(0, 5)", x.loan(0, 5), 199);
        due("count(16)", x.count(16), 4);
        due("cure(0, 36)", x.cure(0, 36), 28);
        due("loan(0, 3)", x.loan(0, 3), 28);
        due("loan(0, 5)", x.loan(0, 5), 0);
        due("loan(0, 6)", x.loan(0, 6), 0);
        due("loan(0, 2)", x.loan(0, 2), 999);
        due("cure(0, 36) again", x.cure(0, 36), NOT_POSSIBLE);
        x.pass(1);
        due("loan(0, 5)", x.loan(0, 5), 28);
        due("undo()", x.undo(), 3);
        due("undo()", x.undo(), 2);
        due("loan(0, 6)", x.loan(0, 6), 1);
        due("cure(0, 37)", x.cure(0, 37), BAD_VALUE);
        due("cure(0, 1)", x.cure(0, 1), 999);
        x.undo();
        due("cure(0, 9): 999 / 9 is 111", x.cure(0, 9), 111);
    }

    private static void sell() {
        PeerNotes x = new PeerNotes();
        x.addInvestor(1000);
        x.addInvestor(1000);
        x.addInvestor(1000);
        x.openLoan(1000, 10, 2);
        x.fund(0, 0, true, 101);
        x.fund(1, 0, false, 300);
        x.fund(2, 0, false, 300);
        x.fund(1, 0, true, 299);
        x.switchServicer(0, 1);
        x.pass(1);
        x.switchServicer(0, 3);
        x.undo();
        x.pass(2);
        due("sell(0, 700): 2 months in arrears", x.sell(0, 700), NOT_POSSIBLE);
        x.pass(1);
        x.switchServicer(0, 3);
        // 600 to the seniors; 100 by 101 and 299: 25 and 74, and one more for note 0.
        due("sell(0, 700)", x.sell(0, 700), 300);
        due("loan(0, 0)", x.loan(0, 0), 3);
        due("loan(0, 2)", x.loan(0, 2), 0);
        due("loan(0, 3)", x.loan(0, 3), 500);
        due("loan(0, 4)", x.loan(0, 4), 0);
        due("loan(0, 5)", x.loan(0, 5), 0);
        due("loan(0, 6)", x.loan(0, 6), 0);
        due("loan(0, 7)", x.loan(0, 7), 1);
        due("loan(0, 8)", x.loan(0, 8), NONE);
        due("note(0, 6)", x.note(0, 6), 75);
        due("note(3, 6)", x.note(3, 6), 225);
        due("note(1, 6)", x.note(1, 6), 0);
        due("note(3, 3)", x.note(3, 3), 0);
        due("investor(0, 0)", x.investor(0, 0), 925);
        due("investor(1, 0)", x.investor(1, 0), 1000 - 599 + 300 + 74);
        due("investor(2, 0)", x.investor(2, 0), 1000);
        due("investor(1, 5)", x.investor(1, 5), 225);
        due("investor(1, 4)", x.investor(1, 4), 0);
        due("count(9)", x.count(9), 0);
        due("sell(0, 700) again", x.sell(0, 700), NOT_POSSIBLE);
        due("undo()", x.undo(), 3);
        due("note(0, 3)", x.note(0, 3), 101);
        // All get all, 99999 - 1000 go to the pool.
        due("sell(0, 99999)", x.sell(0, 99999), 0);
        due("count(9)", x.count(9), 98999);
        due("undo()", x.undo(), 3);
        // 1 among 300 and 300: one for the first.
        due("sell(0, 1)", x.sell(0, 1), 999);
        due("note(1, 6)", x.note(1, 6), 299);
        due("note(2, 6)", x.note(2, 6), 300);
        due("undo()", x.undo(), 3);
        due("sell(0, 0)", x.sell(0, 0), 1000);
        due("count(13)", x.count(13), 1000);
    }

    private static void sellWithPool() {
        PeerNotes x = new PeerNotes();
        x.addInvestor(1000);
        x.addInvestor(1000);
        x.setPoolShare(50);
        x.openLoan(200, 50, 1);
        x.openLoan(100, 50, 1);
        x.fund(0, 0, false, 30);
        x.fund(1, 0, false, 70);
        x.fund(0, 0, true, 100);
        x.fund(1, 1, true, 100);
        x.pass(4);
        // The interest of loan 0 is 40: 20 of it go to the pool.
        due("pay(0, 40)", x.pay(0, 40), 200);
        due("count(9)", x.count(9), 20);
        // 51 by 30 and 70: 15 and 35, one more for note 0. They lack 14 and 35; 20 of the pool: 5 and 14, and one more.
        due("sell(0, 51)", x.sell(0, 51), 129);
        due("note(0, 6)", x.note(0, 6), 8);
        due("note(1, 6)", x.note(1, 6), 21);
        due("note(2, 6)", x.note(2, 6), 100);
        due("count(9)", x.count(9), 0);
        due("undo()", x.undo(), 3);
        // The pool has more than the seniors lack: it keeps the rest, the junior note gets nothing of it.
        due("sell(0, 90)", x.sell(0, 90), 100);
        due("count(9)", x.count(9), 10);
        due("note(0, 6)", x.note(0, 6), 0);
        due("note(1, 6)", x.note(1, 6), 0);
        // A loan of juniors only: the pool gives nothing.
        due("sell(1, 40)", x.sell(1, 40), 60);
        due("count(9)", x.count(9), 10);
        due("investor(1, 5)", x.investor(1, 5), 60);
        due("count(13)", x.count(13), 160);
    }

    private static void sellByLacks() {
        PeerNotes x = new PeerNotes();
        x.addInvestor(1000);
        x.setPoolShare(50);
        x.openLoan(100, 50, 1);
        x.fund(0, 0, false, 1);
        x.fund(0, 0, false, 1);
        x.fund(0, 0, false, 1);
        x.fund(0, 0, true, 97);
        x.pass(4);
        due("pay(0, 2)", x.pay(0, 2), 100);
        due("count(9)", x.count(9), 1);
        // The coin of the price is for note 0, so that of the pool is for note 1.
        due("sell(0, 1)", x.sell(0, 1), 98);
        due("note(0, 6)", x.note(0, 6), 0);
        due("note(1, 6)", x.note(1, 6), 0);
        due("note(2, 6)", x.note(2, 6), 1);
        due("note(3, 6)", x.note(3, 6), 97);
    }

    private static void sellErrors() {
        PeerNotes x = Markets.seniorAndJunior();
        x.openLoan(100, 0, 1);
        x.pass(4);
        due("loan(0, 6)", x.loan(0, 6), 3);
        due("sell(-1, 0)", x.sell(-1, 0), UNKNOWN);
        due("sell(2, -1)", x.sell(2, -1), UNKNOWN);
        due("sell(1, -1)", x.sell(1, -1), BAD_VALUE);
        due("sell(0, -1)", x.sell(0, -1), BAD_VALUE);
        due("sell(0, 100000)", x.sell(0, 100000), BAD_VALUE);
        due("sell(1, 0) in funding", x.sell(1, 0), NOT_POSSIBLE);
        x.deposit(0, MOST - 9400 - 599);
        long told = told(x);
        due("sell(0, 600) without room", x.sell(0, 600), FULL);
        due("told", told(x), told);
        due("sell(0, 599)", x.sell(0, 599), 401);
        due("investor(0, 0)", x.investor(0, 0), MOST);

        // The coins of the pool need room too.
        PeerNotes y = Markets.seniorAndJunior();
        y.pass(4);
        y.pay(0, 201);
        due("count(9)", y.count(9), 10);
        y.deposit(0, MOST - y.investor(0, 0) - 9);
        due("sell(0, 0) without room for what the pool gives", y.sell(0, 0), FULL);
        due("count(9)", y.count(9), 10);
        due("loan(0, 0)", y.loan(0, 0), 1);
        y.undo();
        y.deposit(0, MOST - y.investor(0, 0) - 10);
        due("sell(0, 0)", y.sell(0, 0), 990);
        due("investor(0, 0)", y.investor(0, 0), MOST);
    }

    private static void switchServicer() {
        PeerNotes x = Markets.seniorAndJunior();
        x.openLoan(100, 0, 1);
        due("switchServicer(-1, 0)", x.switchServicer(-1, 0), UNKNOWN);
        due("switchServicer(2, 0)", x.switchServicer(2, 0), UNKNOWN);
        due("switchServicer(0, -1)", x.switchServicer(0, -1), UNKNOWN);
        due("switchServicer(0, 4)", x.switchServicer(0, 4), UNKNOWN);
        due("switchServicer(1, 4)", x.switchServicer(1, 4), UNKNOWN);
        due("switchServicer(0, NONE)", x.switchServicer(0, NONE), UNKNOWN);
        due("switchServicer(1, 1) in funding", x.switchServicer(1, 1), NOT_POSSIBLE);
        due("switchServicer(1, 0) in funding", x.switchServicer(1, 0), NOT_POSSIBLE);
        x.pass(1);
        x.undo();
        due("switchServicer(0, 0)", x.switchServicer(0, 0), NONE);
        due("count(16)", x.count(16), 3);
        due("switchServicer(0, 2)", x.switchServicer(0, 2), 0);
        due("loan(0, 7)", x.loan(0, 7), 0);
        due("loan(0, 8)", x.loan(0, 8), 2);
        due("switchServicer(0, 2)", x.switchServicer(0, 2), NONE);
        due("switchServicer(0, 0): back, as an order", x.switchServicer(0, 0), 0);
        due("loan(0, 8)", x.loan(0, 8), 0);
        due("switchServicer(0, 0)", x.switchServicer(0, 0), NONE);
        due("count(15)", x.count(15), 1);
        due("switchServicer(0, 3)", x.switchServicer(0, 3), 0);
        x.pass(1);
        due("loan(0, 7)", x.loan(0, 7), 3);
        due("loan(0, 8)", x.loan(0, 8), NONE);
        due("switchServicer(0, 3)", x.switchServicer(0, 3), NONE);
        due("switchServicer(0, 0)", x.switchServicer(0, 0), 3);
        due("split(0, 100, 0): the old fee until the month", x.split(0, 100, 0), 4);
        due("undo()", x.undo(), 3);
        due("loan(0, 8)", x.loan(0, 8), NONE);
        x.switchServicer(0, 1);
        x.switchServicer(0, 3);
        x.pass(1);
        due("loan(0, 7)", x.loan(0, 7), 3);
        due("loan(0, 8): gone with the month", x.loan(0, 8), NONE);
        x.switchServicer(0, 2);
        x.pass(1);
        due("loan(0, 7)", x.loan(0, 7), 2);
        x.undo();
        due("loan(0, 7): undone", x.loan(0, 7), 3);
        due("loan(0, 8): ordered again", x.loan(0, 8), 2);
    }

    private static void sellNote() {
        PeerNotes x = Markets.seniorAndJunior();
        x.openLoan(200, 0, 1);
        x.fund(0, 1, false, 100);
        due("sellNote(-1, 1, 1)", x.sellNote(-1, 1, 1), UNKNOWN);
        due("sellNote(3, 1, 1)", x.sellNote(3, 1, 1), UNKNOWN);
        due("sellNote(0, -1, 1)", x.sellNote(0, -1, 1), UNKNOWN);
        due("sellNote(0, 2, -1)", x.sellNote(0, 2, -1), UNKNOWN);
        due("sellNote(0, 1, -1)", x.sellNote(0, 1, -1), BAD_VALUE);
        due("sellNote(0, 1, 100000)", x.sellNote(0, 1, 100000), BAD_VALUE);
        due("sellNote(0, 0, 1)", x.sellNote(0, 0, 1), BAD_VALUE);
        due("sellNote(2, 0, 1) in funding", x.sellNote(2, 0, 1), BAD_VALUE);
        due("sellNote(2, 1, 1) in funding", x.sellNote(2, 1, 1), NOT_POSSIBLE);
        due("sellNote(0, 1, 9601)", x.sellNote(0, 1, 9601), NOT_POSSIBLE);
        x.pass(1);
        x.pay(0, 50);
        int brought = x.note(0, 5);
        due("note(0, 5)", brought, 29);
        int cash0 = x.investor(0, 0);
        int cash1 = x.investor(1, 0);
        due("sellNote(0, 1, cash1 + 1)", x.sellNote(0, 1, cash1 + 1), NOT_POSSIBLE);
        due("count(16)", x.count(16), 4);
        due("sellNote(0, 1, cash1)", x.sellNote(0, 1, cash1), 600);
        due("note(0, 0)", x.note(0, 0), 1);
        due("investor(0, 0)", x.investor(0, 0), cash0 + cash1);
        due("investor(1, 0)", x.investor(1, 0), 0);
        due("investor(0, 4)", x.investor(0, 4), 29);
        due("investor(1, 4)", x.investor(1, 4), 19);
        due("note(0, 5)", x.note(0, 5), brought);
        due("investor(1, 1)", x.investor(1, 1), 1000);
        due("sellNote(0, 1, 0)", x.sellNote(0, 1, 0), BAD_VALUE);
        due("sellNote(0, 0, 0)", x.sellNote(0, 0, 0), 600);
        due("note(0, 0)", x.note(0, 0), 0);
        x.undo();
        x.undo();
        due("note(0, 0)", x.note(0, 0), 0);
        due("investor(1, 0)", x.investor(1, 0), cash1);
        x.deposit(0, MOST - cash0 - 10);
        due("sellNote(0, 1, 11) without room", x.sellNote(0, 1, 11), FULL);
        due("sellNote(0, 1, 9999)", x.sellNote(0, 1, 9999), NOT_POSSIBLE);
        due("sellNote(0, 1, 10)", x.sellNote(0, 1, 10), 600);
        due("investor(0, 0)", x.investor(0, 0), MOST);
        // Interest goes to the buyer from now on.
        x.pass(1);
        due("pay(0, 50)", x.pay(0, 50), 1000);
        due("investor(1, 4)", x.investor(1, 4), 19 + 48);
        due("investor(0, 4)", x.investor(0, 4), 29);

        PeerNotes y = Markets.seniorAndJunior();
        y.pay(0, 603);
        due("sellNote(0, 1, 5) without principal", y.sellNote(0, 1, 5), 0);
        y.pay(0, 402);
        due("loan(0, 0)", y.loan(0, 0), 2);
        due("sellNote(0, 0, 5) when it is repaid", y.sellNote(0, 0, 5), NOT_POSSIBLE);
    }

    private static void pass() {
        PeerNotes x = Markets.seniorAndJunior();
        due("pass(0)", x.pass(0), BAD_VALUE);
        due("pass(-1)", x.pass(-1), BAD_VALUE);
        due("pass(25)", x.pass(25), BAD_VALUE);
        due("pass(MOST)", x.pass(MOST), BAD_VALUE);
        due("count(0)", x.count(0), 0);
        due("pass(1)", x.pass(1), 0);
        due("pass(1)", x.pass(1), 1);
        due("pass(24)", x.pass(24), 1);
        due("count(0)", x.count(0), 26);
        due("undo()", x.undo(), 3);
        due("count(0)", x.count(0), 2);
        for (int i = 0; i < 9; i++) {
            x.pass(24);
        }
        due("count(0)", x.count(0), 218);
        due("pass(23)", x.pass(23), NOT_POSSIBLE);
        due("pass(25)", x.pass(25), BAD_VALUE);
        due("pass(22)", x.pass(22), 1);
        due("count(0)", x.count(0), 240);
        due("pass(1)", x.pass(1), NOT_POSSIBLE);
        due("pass(0)", x.pass(0), BAD_VALUE);
        due("loan(0, 6)", x.loan(0, 6), 239);
    }

    private static void passReckoning() {
        PeerNotes x = new PeerNotes();
        x.addInvestor(5000);
        x.openLoan(999, 33, 7);
        x.openLoan(100, 0, 1);
        x.openLoan(100, 5, 1);
        x.fund(0, 0, false, 999);
        x.fund(0, 1, true, 100);
        due("pass(1)", x.pass(1), 0);
        // 999 * 33 / 1000 is 32.9; 999 / 7 is 142.7.
        due("loan(0, 4)", x.loan(0, 4), 32);
        due("loan(0, 5)", x.loan(0, 5), 143);
        due("loan(1, 4)", x.loan(1, 4), 0);
        due("loan(1, 5)", x.loan(1, 5), 100);
        due("loan(2, 4) in funding", x.loan(2, 4), 0);
        due("loan(2, 5) in funding", x.loan(2, 5), 0);
        due("pass(6)", x.pass(6), 2);
        due("loan(0, 4)", x.loan(0, 4), 224);
        due("loan(0, 5): at most the principal", x.loan(0, 5), 999);
        due("loan(1, 5)", x.loan(1, 5), 100);
        due("loan(0, 6)", x.loan(0, 6), 6);
        // 225 coins, fee 1: all interest; 100 coins, fee 0.
        due("pay(0, 225)", x.pay(0, 225), 999);
        due("pay(1, 100)", x.pay(1, 100), 0);
        due("pass(1)", x.pass(1), 1);
        due("loan(0, 6): principal is due", x.loan(0, 6), 7);
        due("loan(1, 5) when it is repaid", x.loan(1, 5), 0);
        due("pay(0, 1036)", x.pay(0, 1036), 0);
        due("loan(0, 0)", x.loan(0, 0), 2);
        due("pass(2)", x.pass(2), 0);
        due("loan(0, 4)", x.loan(0, 4), 0);

        // One coin that is due is enough for arrears.
        PeerNotes z = Markets.running(100, 0, 10);
        z.pass(1);
        z.pay(0, 9);
        due("loan(0, 5)", z.loan(0, 5), 1);
        due("pass(1)", z.pass(1), 1);

        // A payment ahead: in the month nothing was due, so there are no arrears.
        PeerNotes y = Markets.running(1000, 10, 10);
        due("pay(0, 201)", y.pay(0, 201), 800);
        y.pass(1);
        due("loan(0, 4)", y.loan(0, 4), 8);
        due("loan(0, 5)", y.loan(0, 5), 100);
        due("pay(0, 100)", y.pay(0, 100), 708);
        due("loan(0, 5)", y.loan(0, 5), 8);
        due("pay(0, 8)", y.pay(0, 8), 700);
        due("pass(1)", y.pass(1), 0);
        due("loan(0, 6)", y.loan(0, 6), 0);
        due("pass(1): interest and principal are due", y.pass(1), 1);
    }

    private static void type() {
        PeerNotes x = new PeerNotes();
        due("type('a')", x.type('a'), 1);
        due("type(0)", x.type((char) 0), 2);
        due("type(65535)", x.type((char) 65535), 3);
        for (int i = 4; i <= 60; i++) {
            due("type, number " + i, x.type('1'), i);
        }
        due("type, the 61st", x.type('1'), FULL);
        due("count(17)", x.count(17), 60);
        due("count(16): no act", x.count(16), 0);
        due("readFundings()", x.readFundings(), -100);
    }

    private static void clearText() {
        PeerNotes x = new PeerNotes();
        due("clearText()", x.clearText(), 0);
        Markets.write(x, "0>0s5");
        due("clearText()", x.clearText(), 5);
        due("count(17)", x.count(17), 0);
        due("clearText()", x.clearText(), 0);
        due("count(16): no act", x.count(16), 0);
        due("readFundings()", x.readFundings(), -100);
        due("type('0')", x.type('0'), 1);
        due("readFundings(): nothing of the old text", x.readFundings(), -101);
    }

    private static void readFundings() {
        PeerNotes x = new PeerNotes();
        x.addInvestor(1000);
        x.addInvestor(1000);
        x.openLoan(500, 10, 5);
        x.openLoan(1000, 10, 5);
        x.setPoolShare(7);
        due("read", Markets.read(x, "0>0s100;1>0j400;1>1s5"), 3);
        due("count(17): the text stays", x.count(17), 21);
        due("count(16): one act", x.count(16), 4);
        due("loan(0, 0)", x.loan(0, 0), 1);
        due("loan(0, 3)", x.loan(0, 3), 100);
        due("note(0, 0)", x.note(0, 0), 0);
        due("note(0, 2)", x.note(0, 2), 0);
        due("note(0, 4)", x.note(0, 4), 100);
        due("note(1, 0)", x.note(1, 0), 1);
        due("note(1, 2)", x.note(1, 2), 1);
        due("note(2, 1)", x.note(2, 1), 1);
        due("investor(1, 0)", x.investor(1, 0), 595);
        due("undo()", x.undo(), 3);
        due("count(8)", x.count(8), 0);
        due("loan(0, 0)", x.loan(0, 0), 0);
        due("count(17)", x.count(17), 21);
        due("readFundings() again", x.readFundings(), 3);
        due("the longest text", Markets.read(x, "0>1s1;0>1s1;0>1s1;0>1s1;0>1s1;0>1s1;0>1s1;0>1s1;0>1s1;0>1j9"), 10);
        due("count(8)", x.count(8), 13);
        due("note(12, 3)", x.note(12, 3), 9);
        due("note(12, 2)", x.note(12, 2), 1);
    }

    private static void readFaults() {
        PeerNotes x = new PeerNotes();
        x.addInvestor(100000);
        x.openLoan(99999, 10, 5);
        String[] texts = {"", "x", "0", "00", "0>", "0>x", "0>0", "0>0S", "0>0s", "0>0s0", "0>0s:", "0>0s/", "0>0s5x",
            "0>0s5;", "0>0s5;;", "0>0s5;x", "0>0s12345;", "0>0s123456", "0>0s1234>", "0>0s1 ", " 0>0s1", "0>0s1;0>0j",
            "0>0s1;0>0k1", "0>0s-1", "/>0s1", ":>0s1", "0>/s1", "0>:s1", "0<0s1", "0>0s1;00s1", "9>9s1;",
            "0>0s1;0>0s1;0>0s1;0>0s1;0>0s1;0>0s1;0>0s1;0>0s1;0>0s1;0>0s1;"};
        int[] faults = {0, 0, 1, 1, 2, 2, 3, 3, 4, 4, 4, 4, 5,
            6, 6, 6, 10, 9, 8, 5, 0, 10,
            9, 4, 0, 0, 2, 2, 1, 7, 6,
            60};
        for (int i = 0; i < texts.length; i++) {
            due("read \"" + texts[i] + "\"", Markets.read(x, texts[i]), -100 - faults[i]);
        }
        x.clearText();
        x.type((char) ('0' + 256));
        due("read a sign beyond 255", x.readFundings(), -100);
        due("count(8)", x.count(8), 0);
        due("count(16)", x.count(16), 2);
        due("read", Markets.read(x, "0>0s99999"), 1);
    }

    private static void readErrors() {
        PeerNotes x = new PeerNotes();
        x.addInvestor(100);
        x.addInvestor(100);
        x.openLoan(150, 10, 5);
        long told = told(x);
        int states = x.count(16);
        due("an unknown investor", Markets.read(x, "0>0s50;8>0s1"), UNKNOWN);
        due("an unknown loan", Markets.read(x, "0>0s50;0>1s1"), UNKNOWN);
        due("the first error counts", Markets.read(x, "0>0s101;2>0s1"), NOT_POSSIBLE);
        due("cash of the one before", Markets.read(x, "0>0s60;0>0j41"), NOT_POSSIBLE);
        due("more than are missing by then", Markets.read(x, "0>0s60;1>0j91"), NOT_POSSIBLE);
        due("it runs by then", Markets.read(x, "0>0s60;1>0j90;1>0j1;2>0s1"), NOT_POSSIBLE);
        due("told", told(x), told);
        due("count(16)", x.count(16), states);
        due("read", Markets.read(x, "0>0s60;1>0j90"), 2);
        due("loan(0, 0)", x.loan(0, 0), 1);
        due("readFundings() again", x.readFundings(), NOT_POSSIBLE);

        PeerNotes y = new PeerNotes();
        y.addInvestor(1000);
        y.openLoan(1000, 0, 1);
        for (int i = 0; i < 58; i++) {
            y.fund(0, 0, false, 1);
        }
        y.pass(1);
        due("no room for the third", Markets.read(y, "0>0s1;0>0s1;0>0s1"), FULL);
        due("count(8)", y.count(8), 58);
        due("room for two", Markets.read(y, "0>0s1;0>0s1"), 2);
        due("count(8)", y.count(8), 60);
        // A reading that failed has dropped no state: pass and three fundings are there still.
        y.undo();
        due("count(0)", y.count(0), 1);
        y.undo();
        due("count(0)", y.count(0), 0);
        due("undo()", y.undo(), 1);
        due("undo()", y.undo(), 0);
        due("count(8)", y.count(8), 56);
    }

    private static void undo() {
        PeerNotes x = new PeerNotes();
        due("undo()", x.undo(), NONE);
        for (int i = 0; i < 6; i++) {
            x.addInvestor(i);
        }
        due("count(16)", x.count(16), 4);
        due("undo()", x.undo(), 3);
        due("count(1)", x.count(1), 5);
        due("undo()", x.undo(), 2);
        due("undo()", x.undo(), 1);
        due("undo()", x.undo(), 0);
        due("count(1)", x.count(1), 2);
        due("undo()", x.undo(), NONE);
        due("count(1)", x.count(1), 2);

        // Two markets that are made alike: all that is told nine times is more than an object's 512 calls.
        PeerNotes y = Markets.seniorAndJunior();
        PeerNotes twin = Markets.seniorAndJunior();
        long[] told = new long[5];
        for (int act = 0; act < 5; act++) {
            undoneAct(twin, act);
            told[act] = told(twin);
            undoneAct(y, act);
        }
        for (int left = 3; left >= 0; left--) {
            due("undo()", y.undo(), left);
            due("told", told(y), told[left]);
        }
    }

    private static void undoneAct(PeerNotes x, int act) {
        switch (act) {
            case 0 -> due("pass(3)", x.pass(3), 1);
            case 1 -> due("pay(0, 300)", x.pay(0, 300), 851);
            case 2 -> due("sellNote(1, 0, 123)", x.sellNote(1, 0, 123), 400);
            case 3 -> due("pass(5)", x.pass(5), 1);
            default -> due("sell(0, 321)", x.sell(0, 321), 523);
        }
    }

    private static void keep() {
        PeerNotes x = Markets.seniorAndJunior();
        due("keep()", x.keep(), 2);
        due("count(16): no act", x.count(16), 4);
        x.openLoan(100, 0, 1);
        x.fund(0, 1, false, 5);
        due("restore()", x.restore(), 2);
        due("count(2)", x.count(2), 1);
        x.undo();
        due("keep(), in place of the first", x.keep(), 3);
        x.pass(3);
        due("restore()", x.restore(), 3);
        due("count(2)", x.count(2), 2);
        due("count(0)", x.count(0), 0);
        PeerNotes y = new PeerNotes();
        due("keep()", y.keep(), 0);
        due("restore()", y.restore(), 0);
    }

    private static void restore() {
        PeerNotes x = new PeerNotes();
        due("restore()", x.restore(), NONE);
        due("count(16)", x.count(16), 0);
        x.addInvestor(500);
        x.keep();
        x.deposit(0, 5);
        x.undo();
        x.undo();
        due("count(1)", x.count(1), 0);
        due("restore(): undo does not touch the snapshot", x.restore(), 0);
        due("count(1)", x.count(1), 1);
        due("count(16): an act", x.count(16), 1);
        x.type('z');
        x.setPoolShare(9);
        x.openLoan(100, 1, 1);
        x.fund(0, 0, false, 100);
        long told = told(x);
        due("restore(): it stays", x.restore(), 0);
        due("count(10)", x.count(10), 5);
        due("count(2)", x.count(2), 0);
        due("investor(0, 0)", x.investor(0, 0), 500);
        due("count(17): the text is no part of it", x.count(17), 1);
        due("undo()", x.undo(), 3);
        due("told", told(x), told);
        due("restore()", x.restore(), 0);
        due("restore() again is an act", x.restore(), 0);
        due("count(16)", x.count(16), 4);
    }

    private static void restoreOverOthers() {
        PeerNotes x = new PeerNotes();
        x.addInvestor(5000);
        x.addInvestor(6000);
        x.openLoan(1000, 30, 5);
        x.openLoan(2000, 40, 6);
        x.fund(0, 0, true, 1000);
        x.fund(1, 1, false, 700);
        x.switchServicer(0, 2);
        x.pass(1);
        x.pay(0, 100);
        x.keep();
        x.sellNote(0, 1, 3);
        x.restore();
        long told = told(x);

        PeerNotes y = new PeerNotes();
        y.keep();
        y.addInvestor(5000);
        y.addInvestor(6000);
        y.openLoan(1000, 30, 5);
        y.openLoan(2000, 40, 6);
        y.fund(0, 0, true, 1000);
        y.fund(1, 1, false, 700);
        y.switchServicer(0, 2);
        y.pass(1);
        y.pay(0, 100);
        // Every row is written over by other ones, after the way back to nothing, before the snapshot comes back.
        int[] states = new int[4];
        for (int i = 0; i < states.length; i++) {
            states[i] = y.undo();
        }
        due("count(8)", y.count(8), 1);
        y.fund(1, 1, false, 700);
        y.switchServicer(0, 2);
        y.pass(1);
        y.pay(0, 100);
        y.restore();
        due("count(2)", y.count(2), 0);
        due("undo()", y.undo(), 3);
        due("told", told(y), told);
        y.keep();
        for (int i = 0; i < states.length; i++) {
            y.undo();
        }
        y.openLoan(300, 7, 9);
        y.fund(0, 2, false, 300);
        y.switchServicer(2, 1);
        y.pass(2);
        y.giveUp(1);
        due("restore()", y.restore(), 2);
        due("told", told(y), told);
        y.fund(1, 1, true, 1300);
        due("loan(1, 3): its months are back", y.loan(1, 3), 334);
        y.pass(1);
        due("loan(1, 4): its rate is back", y.loan(1, 4), 80);

        // From nothing over rows that are used otherwise.
        PeerNotes z = new PeerNotes();
        z.addInvestor(500);
        z.addInvestor(400);
        z.openLoan(100, 10, 2);
        z.keep();
        z.undo();
        z.undo();
        z.undo();
        z.openLoan(200, 20, 4);
        due("restore()", z.restore(), 0);
        due("loan(0, 1)", z.loan(0, 1), 100);
        due("fund(1, 0, true, 100)", z.fund(1, 0, true, 100), 0);
        due("loan(0, 3)", z.loan(0, 3), 50);
        z.pass(1);
        due("loan(0, 4)", z.loan(0, 4), 1);
        z.keep();
        z.undo();
        z.undo();
        z.openLoan(100, 0, 1);
        due("fund(0, 1, false, 30)", z.fund(0, 1, false, 30), 70);
        due("restore()", z.restore(), 1);
        int[] want = {1, 0, 1, 100, 100, 0, 0};
        for (int what = 0; what < want.length; what++) {
            due("note(0, " + what + ")", z.note(0, what), want[what]);
        }
    }

    private static void investor() {
        PeerNotes x = new PeerNotes();
        due("investor(0, 0)", x.investor(0, 0), UNKNOWN);
        x.addInvestor(1000);
        x.addInvestor(1000);
        x.openLoan(100, 50, 1);
        x.openLoan(100, 50, 1);
        x.openLoan(100, 50, 1);
        x.fund(0, 0, false, 50);
        x.fund(0, 0, true, 50);
        x.fund(0, 2, true, 40);
        x.fund(1, 2, true, 40);
        due("investor(-1, 0)", x.investor(-1, 0), UNKNOWN);
        due("investor(2, 0)", x.investor(2, 0), UNKNOWN);
        due("investor(2, 6)", x.investor(2, 6), UNKNOWN);
        due("investor(0, -1)", x.investor(0, -1), BAD_VALUE);
        due("investor(0, 6)", x.investor(0, 6), BAD_VALUE);
        due("investor(0, 0)", x.investor(0, 0), 860);
        due("investor(0, 1)", x.investor(0, 1), 140);
        due("investor(0, 2)", x.investor(0, 2), 3);
        due("investor(0, 3)", x.investor(0, 3), 5);
        due("investor(1, 3)", x.investor(1, 3), 4);
        x.pass(1);
        x.pay(0, 55);
        due("investor(0, 1)", x.investor(0, 1), 90);
        due("investor(0, 2)", x.investor(0, 2), 2);
        due("investor(0, 3)", x.investor(0, 3), 5);
        due("investor(0, 4)", x.investor(0, 4), 5);
        x.sellNote(1, 1, 0);
        due("investor(0, 3)", x.investor(0, 3), 4);
        due("investor(1, 3)", x.investor(1, 3), 5);
        due("investor(0, 5)", x.investor(0, 5), 0);
        x.pass(3);
        due("sell(0, 20)", x.sell(0, 20), 30);
        due("investor(0, 5)", x.investor(0, 5), 0);
        due("investor(1, 5)", x.investor(1, 5), 30);
        due("investor(1, 2)", x.investor(1, 2), 1);
        due("investor(1, 3)", x.investor(1, 3), 4);
        PeerNotes y = Markets.seniorAndJunior();
        due("investor(0, 1) of note 0 alone", y.investor(0, 1), 600);
        due("investor(0, 2) of note 0 alone", y.investor(0, 2), 1);
        due("investor(0, 3) of note 0 alone", y.investor(0, 3), 1);
        x.giveUp(2);
        due("investor(1, 1)", x.investor(1, 1), 0);
        due("investor(1, 3)", x.investor(1, 3), 0);
        due("count(16)", x.count(16), 4);
    }

    private static void loan() {
        PeerNotes x = new PeerNotes();
        due("loan(0, 0)", x.loan(0, 0), UNKNOWN);
        x.addInvestor(2000);
        x.openLoan(1000, 10, 3);
        due("loan(-1, 0)", x.loan(-1, 0), UNKNOWN);
        due("loan(1, 13)", x.loan(1, 13), UNKNOWN);
        due("loan(0, -1)", x.loan(0, -1), BAD_VALUE);
        due("loan(0, 13)", x.loan(0, 13), BAD_VALUE);
        x.fund(0, 0, false, 150);
        x.fund(0, 0, true, 250);
        x.fund(0, 0, false, 350);
        rows(x, "in funding", new int[] {0, 1000, 0, NONE, 0, 0, 0, 0, NONE, 250, 3, 500, 250});
        x.fund(0, 0, true, 250);
        rows(x, "running", new int[] {1, 1000, 1000, 334, 0, 0, 0, 0, NONE, 0, 4, 500, 500});
        x.pass(2);
        x.switchServicer(0, 2);
        rows(x, "in arrears", new int[] {1, 1000, 1000, 334, 20, 668, 1, 0, 2, 0, 4, 500, 500});
        x.pass(1);
        x.pay(0, 650);
        // The fee is 13, the interest 30: 607 of principal.
        rows(x, "paid in part", new int[] {1, 1000, 393, 334, 0, 393, 2, 2, NONE, 0, 4, 0, 393});
        x.pass(1);
        x.keep();
        x.sell(0, 100);
        rows(x, "sold", new int[] {3, 1000, 0, 334, 0, 0, 0, 2, NONE, 0, 4, 0, 0});
        x.restore();
        due("toRepay(0)", x.toRepay(0), 404);
        x.switchServicer(0, 3);
        x.pay(0, 404);
        rows(x, "repaid", new int[] {2, 1000, 0, 334, 0, 0, 0, 2, NONE, 0, 4, 0, 0});
        x.openLoan(500, 1, 1);
        x.giveUp(1);
        due("loan(1, 0)", x.loan(1, 0), 4);
        due("loan(1, 3)", x.loan(1, 3), NONE);
        due("loan(1, 9)", x.loan(1, 9), 0);
        due("loan(1, 10)", x.loan(1, 10), 0);
    }

    private static void rows(PeerNotes x, String when, int[] want) {
        for (int what = 0; what < want.length; what++) {
            due("loan(0, " + what + ") " + when, x.loan(0, what), want[what]);
        }
    }

    private static void note() {
        PeerNotes x = new PeerNotes();
        due("note(0, 0)", x.note(0, 0), UNKNOWN);
        x.addInvestor(100);
        x.addInvestor(5000);
        x.openLoan(100, 0, 1);
        x.openLoan(2000, 50, 1);
        x.fund(1, 1, true, 1500);
        x.fund(1, 1, false, 500);
        due("note(-1, 0)", x.note(-1, 0), UNKNOWN);
        due("note(2, 7)", x.note(2, 7), UNKNOWN);
        due("note(0, -1)", x.note(0, -1), BAD_VALUE);
        due("note(0, 7)", x.note(0, 7), BAD_VALUE);
        int[] first = {1, 1, 1, 1500, 1500, 0, 0};
        for (int what = 0; what < first.length; what++) {
            due("note(0, " + what + ")", x.note(0, what), first[what]);
        }
        due("note(1, 2)", x.note(1, 2), 0);
        x.pass(4);
        // Fee 5, interest 400, 20 of it for the pool, 595 of principal.
        x.pay(1, 1000);
        due("note(0, 3)", x.note(0, 3), 1405);
        due("note(0, 4)", x.note(0, 4), 1500);
        due("note(0, 5)", x.note(0, 5), 285);
        due("note(1, 3)", x.note(1, 3), 0);
        due("note(1, 5)", x.note(1, 5), 95);
        x.sellNote(0, 0, 1);
        due("note(0, 0)", x.note(0, 0), 0);
        x.sell(1, 405);
        due("note(0, 3)", x.note(0, 3), 0);
        due("note(0, 5)", x.note(0, 5), 285);
        due("note(0, 6)", x.note(0, 6), 1000);
        due("note(1, 6)", x.note(1, 6), 0);
    }

    private static void split() {
        PeerNotes x = Markets.seniorAndJunior();
        x.openLoan(100, 0, 1);
        x.setPoolShare(7);
        x.pass(2);
        x.switchServicer(0, 1);
        due("split(-1, 1, 0)", x.split(-1, 1, 0), UNKNOWN);
        due("split(2, 0, 9)", x.split(2, 0, 9), UNKNOWN);
        due("split(0, 0, 0)", x.split(0, 0, 0), BAD_VALUE);
        due("split(0, 200000, 0)", x.split(0, 200000, 0), BAD_VALUE);
        due("split(0, 1, -1)", x.split(0, 1, -1), BAD_VALUE);
        due("split(0, 1, 6)", x.split(0, 1, 6), BAD_VALUE);
        due("split(1, 1, 6)", x.split(1, 1, 6), BAD_VALUE);
        due("split(1, 1, 0) in funding", x.split(1, 1, 0), NOT_POSSIBLE);
        // 1105 less the fee of 5 is 1100, all that is owed.
        due("split(0, 1106, 0)", x.split(0, 1106, 0), NOT_POSSIBLE);
        long told = told(x);
        int[][] rows = {{1, 0, 1, 0, 0, 0, 0}, {99, 0, 99, 6, 0, 0, 0}, {200, 1, 100, 7, 99, 99, 0},
            {703, 3, 100, 7, 600, 600, 0}, {704, 3, 100, 7, 601, 600, 1}, {1105, 5, 100, 7, 1000, 600, 400}};
        for (int[] row : rows) {
            for (int what = 0; what < 6; what++) {
                due("split(0, " + row[0] + ", " + what + ")", x.split(0, row[0], what), row[what + 1]);
            }
        }
        due("told", told(x), told);
        x.pass(1);
        due("split(0, 100, 0), the next servicer", x.split(0, 100, 0), 1);
        x.deposit(0, MOST - x.investor(0, 0));
        due("split(0, 100, 1): no cash is looked at", x.split(0, 100, 1), 99);
        x.pass(1);
        x.sell(0, 0);
        x.undo();
        due("pay(0, 1)", x.pay(0, 1), FULL);
    }

    private static void toRepay() {
        PeerNotes x = Markets.seniorAndJunior();
        x.openLoan(100, 0, 1);
        due("toRepay(-1)", x.toRepay(-1), UNKNOWN);
        due("toRepay(2)", x.toRepay(2), UNKNOWN);
        due("toRepay(1) in funding", x.toRepay(1), NOT_POSSIBLE);
        due("toRepay(0)", x.toRepay(0), 1005);
        x.switchServicer(0, 1);
        due("toRepay(0)", x.toRepay(0), 1005);
        x.pass(1);
        int[] servicers = {1, 2, 3, 0};
        for (int servicer : servicers) {
            x.switchServicer(0, servicer);
            x.pass(1);
            int fewest = x.toRepay(0);
            due("split(0, fewest - 1, 3)", x.split(0, fewest - 1, 3), 999);
            due("split(0, fewest, 3)", x.split(0, fewest, 3), 1000);
            due("pay(0, fewest - 1)", x.pay(0, fewest - 1), 1);
            x.undo();
            due("pay(0, fewest)", x.pay(0, fewest), 0);
            due("loan(0, 0)", x.loan(0, 0), 2);
            due("toRepay(0) when it is repaid", x.toRepay(0), NOT_POSSIBLE);
            x.undo();
        }

        PeerNotes y = Markets.running(99999, 50, 1);
        y.switchServicer(0, 3);
        for (int i = 0; i < 10; i++) {
            y.pass(24);
        }
        // 99999 + 240 * 4999 = 1299759; of 1353915 the fee is 54156.
        due("toRepay(0) beyond a payment", y.toRepay(0), 1353915);
    }

    private static void servicer() {
        PeerNotes x = Markets.seniorAndJunior();
        x.openLoan(1000, 0, 1);
        x.fund(0, 1, false, 1000);
        x.openLoan(1000, 0, 1);
        due("servicer(-1, 0)", x.servicer(-1, 0), UNKNOWN);
        due("servicer(4, 3)", x.servicer(4, 3), UNKNOWN);
        due("servicer(0, -1)", x.servicer(0, -1), BAD_VALUE);
        due("servicer(3, 3)", x.servicer(3, 3), BAD_VALUE);
        int[] fees = {5, 10, 20, 40};
        for (int i = 0; i < 4; i++) {
            due("servicer(" + i + ", 0)", x.servicer(i, 0), fees[i]);
        }
        due("servicer(0, 2)", x.servicer(0, 2), 2);
        x.switchServicer(1, 3);
        due("servicer(3, 2)", x.servicer(3, 2), 0);
        x.pay(1, 400);
        due("servicer(0, 1)", x.servicer(0, 1), 2);
        x.pass(1);
        due("servicer(3, 2)", x.servicer(3, 2), 1);
        due("servicer(0, 2)", x.servicer(0, 2), 1);
        x.pay(1, 100);
        x.pay(1, 99);
        due("servicer(3, 1)", x.servicer(3, 1), 7);
        due("servicer(0, 1)", x.servicer(0, 1), 2);
        x.undo();
        due("servicer(3, 1)", x.servicer(3, 1), 4);
        due("toRepay(1)", x.toRepay(1), 527);
        x.pay(1, 527);
        due("servicer(3, 2): it is repaid", x.servicer(3, 2), 0);
        due("servicer(3, 1)", x.servicer(3, 1), 25);
    }

    private static void count() {
        PeerNotes x = new PeerNotes();
        due("count(-1)", x.count(-1), BAD_VALUE);
        due("count(18)", x.count(18), BAD_VALUE);
        due("count(MOST)", x.count(MOST), BAD_VALUE);
        due("count(LEAST)", x.count(LEAST), BAD_VALUE);
        x.addInvestor(10000);
        x.addInvestor(10000);
        for (int i = 0; i < 7; i++) {
            x.openLoan(1000, 10, 10);
        }
        for (int i = 1; i < 6; i++) {
            x.fund(i % 2, i, i == 3, 1000);
        }
        x.fund(0, 6, false, 10);
        x.giveUp(6);
        x.switchServicer(1, 1);
        x.pass(1);
        x.pay(1, 1020);
        x.pay(2, 110);
        x.pass(1);
        x.pay(2, 110);
        x.pass(2);
        x.sell(3, 100);
        x.pay(2, 110);
        x.pay(2, 110);
        x.switchServicer(4, 2);
        x.switchServicer(5, 2);
        x.type('q');
        // Loan 0 in funding, 1 repaid, 2 paid up, 3 sold, 4 and 5 in arrears, 6 given up.
        // The pool: 0 of the 10 coins of interest each time, so what is left of loan 3 is the loss of the junior.
        int principal2 = x.loan(2, 2);
        int[] want = {4, 2, 7, 1, 3, 1, 1, 1, 6, 0, 5, principal2 + 2000, 80, 900, 2, 2, 4, 1};
        for (int what = 0; what < want.length; what++) {
            due("count(" + what + ")", x.count(what), want[what]);
        }
        x.undo();
        due("count(15)", x.count(15), 1);
        due("count(16)", x.count(16), 3);
    }

    /** 8 investors, 10 loans, 60 notes: every row is in use. */
    private static void fullHouse() {
        PeerNotes x = new PeerNotes();
        for (int i = 0; i < 8; i++) {
            x.addInvestor(1000);
        }
        for (int i = 0; i < 10; i++) {
            x.openLoan(600, 10, 1);
        }
        for (int i = 0; i < 60; i++) {
            due("fund, number " + i, x.fund(i % 8, i / 6, i % 2 == 1, 100), 500 - i % 6 * 100);
        }
        x.pass(4);
        int[] want = {4, 8, 10, 0, 10, 0, 0, 0, 60, 0, 5, 6000, 240, 0, 10, 0, 4, 0};
        for (int what = 0; what < want.length; what++) {
            due("count(" + what + ")", x.count(what), want[what]);
        }
        due("servicer(0, 2)", x.servicer(0, 2), 10);
        // Notes 7, 15, .. 55 are of investor 7: those of the loans 1, 2, 3, 5, 6, 7 and 9.
        int[] last = {300, 700, 7, 0x2EE, 0, 0};
        for (int what = 0; what < last.length; what++) {
            due("investor(7, " + what + ")", x.investor(7, what), last[what]);
        }
        due("loan(9, 10)", x.loan(9, 10), 6);
        due("loan(9, 11)", x.loan(9, 11), 300);
        due("loan(9, 12)", x.loan(9, 12), 300);
        due("note(59, 0)", x.note(59, 0), 3);
        due("pay(9, 327)", x.pay(9, 327), 298);
        due("note(59, 5)", x.note(59, 5), 3);
        due("note(59, 3)", x.note(59, 3), 100);
        due("sell(0, 400)", x.sell(0, 400), 200);
        due("sell(9, 99)", x.sell(9, 99), 199);
        due("count(13)", x.count(13), 399);
        due("note(59, 6)", x.note(59, 6), 67);
        for (int i = 1; i < 9; i++) {
            x.switchServicer(i, 3);
        }
        due("count(15)", x.count(15), 8);
        due("pass(1)", x.pass(1), 8);
        due("servicer(3, 2)", x.servicer(3, 2), 8);
    }
}
