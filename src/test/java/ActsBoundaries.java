/** The boundary cases of the promises 1 to 13: a new object, who, and loans; a test each. */
public final class ActsBoundaries extends Sentences {
    public static void main(String[] args) {
        run(ActsBoundaries.class);
    }

    // ---- 1

    @Says(in = "Promise 1", value = "Creates a market without investors and loans.")
    static void theEmptyMarket() {
        PeerNotes x = new PeerNotes();
        for (int what = 0; what <= 17; what++) {
            due("count(" + what + ")", x.count(what), what == 10 ? 5 : 0);
        }
        due("investor(0, 0)", x.investor(0, 0), UNKNOWN);
        due("loan(0, 0)", x.loan(0, 0), UNKNOWN);
        due("note(0, 0)", x.note(0, 0), UNKNOWN);
        due("split(0, 1, 0)", x.split(0, 1, 0), UNKNOWN);
        due("toRepay(0)", x.toRepay(0), UNKNOWN);
        for (int servicer = 0; servicer < 4; servicer++) {
            due("servicer(" + servicer + ", 1)", x.servicer(servicer, 1), 0);
            due("servicer(" + servicer + ", 2)", x.servicer(servicer, 2), 0);
        }
    }

    @Says(in = "Promise 1", value = "Creates a market without investors and loans.")
    static void actsInTheEmptyMarket() {
        PeerNotes x = new PeerNotes();
        refused("deposit(0, 1)", x, y -> y.deposit(0, 1), UNKNOWN);
        refused("fund(0, 0, false, 1)", x, y -> y.fund(0, 0, false, 1), UNKNOWN);
        refused("giveUp(0)", x, y -> y.giveUp(0), UNKNOWN);
        refused("pay(0, 1)", x, y -> y.pay(0, 1), UNKNOWN);
        refused("cure(0, 1)", x, y -> y.cure(0, 1), UNKNOWN);
        refused("sell(0, 0)", x, y -> y.sell(0, 0), UNKNOWN);
        refused("switchServicer(0, 0)", x, y -> y.switchServicer(0, 0), UNKNOWN);
        refused("sellNote(0, 0, 0)", x, y -> y.sellNote(0, 0, 0), UNKNOWN);
        refused("undo()", x, PeerNotes::undo, NONE);
        refused("restore()", x, PeerNotes::restore, NONE);
        refused("readFundings()", x, PeerNotes::readFundings, -100);
        due("clearText()", x.clearText(), 0);
        due("keep()", x.keep(), 0);
        due("pass(1)", x.pass(1), 0);
        due("count(16)", x.count(16), 1);
    }

    @Says(in = "Promise 1", value = "Creates a market without investors and loans.")
    static void objectsShareNothing() {
        PeerNotes x = Markets.ofEachState();
        PeerNotes y = new PeerNotes();
        x.setPoolShare(9);
        x.type('7');
        x.keep();
        due("count(1)", y.count(1), 0);
        due("count(10)", y.count(10), 5);
        due("count(16)", y.count(16), 0);
        due("count(17)", y.count(17), 0);
        due("restore()", y.restore(), NONE);
    }

    // ---- 2

    @Says(in = "Promise 2", value = {"- `cash`: 0 or more", "BAD_VALUE"})
    static void cashOf0IsTakenAndBelowIsNot() {
        PeerNotes x = new PeerNotes();
        refused("addInvestor(-1)", x, y -> y.addInvestor(-1), BAD_VALUE);
        refused("addInvestor(LEAST)", x, y -> y.addInvestor(LEAST), BAD_VALUE);
        due("count(1)", x.count(1), 0);
        due("addInvestor(0)", x.addInvestor(0), 0);
        due("addInvestor(1)", x.addInvestor(1), 1);
        due("addInvestor(MOST)", x.addInvestor(MOST), 2);
        dueRows("investor(.., 0)", Markets.investors(x, 0), 0, 1, MOST);
    }

    @Says(in = "Promise 2", value = "Returns the investor's number")
    static void theNumberOfANewInvestor() {
        PeerNotes x = new PeerNotes();
        for (int i = 0; i < 8; i++) {
            due("addInvestor", x.addInvestor(100 + i), i);
        }
        for (int i = 0; i < 8; i++) {
            dueRows("investor(" + i + ", ..)", Markets.investor(x, i), 100 + i, 0, 0, 0, 0, 0);
        }
    }

    @Says(in = "Promise 2", value = "FULL if there are 8.")
    static void theNinthInvestor() {
        PeerNotes x = Markets.withInvestors(1, 2, 3, 4, 5, 6, 7);
        due("addInvestor, the eighth", x.addInvestor(8), 7);
        refused("addInvestor, the ninth", x, y -> y.addInvestor(9), FULL);
        due("undo()", x.undo(), 3);
        due("addInvestor, the eighth again", x.addInvestor(10), 7);
        due("investor(7, 0)", x.investor(7, 0), 10);
    }

    @Says(in = "Promise 2", value = "BAD_VALUE; FULL")
    static void addInvestorTellsABadValueFirst() {
        PeerNotes x = Markets.withInvestors(1, 2, 3, 4, 5, 6, 7, 8);
        refused("addInvestor(-1), the ninth", x, y -> y.addInvestor(-1), BAD_VALUE);
    }

    @Says(in = "Promise 2", value = "Adds an investor. This is an act.")
    static void addInvestorIsAnAct() {
        act("addInvestor(7)", PeerNotes::new, x -> x.addInvestor(7), 0);
        act("addInvestor(7)", Markets::ofEachState, x -> x.addInvestor(7), 2);
    }

    // ---- 3

    @Says(in = "Promise 3", value = {"- `investor`: an investor", "UNKNOWN"})
    static void depositToTheLastInvestorAndToTheNext() {
        PeerNotes x = Markets.withInvestors(1, 2, 3);
        int[] none = {-1, 3, 8, LEAST, MOST};
        for (int investor : none) {
            refused("deposit(" + investor + ", 1)", x, y -> y.deposit(investor, 1), UNKNOWN);
        }
        due("deposit(0, 1)", x.deposit(0, 1), 2);
        due("deposit(2, 1)", x.deposit(2, 1), 4);
        dueRows("investor(.., 0)", Markets.investors(x, 0), 2, 2, 4);
    }

    @Says(in = "Promise 3", value = {"- `coins`: 1 or more", "BAD_VALUE"})
    static void depositOf1IsTakenAndOf0IsNot() {
        PeerNotes x = Markets.withInvestors(10);
        int[] bad = {0, -1, LEAST};
        for (int coins : bad) {
            refused("deposit(0, " + coins + ")", x, y -> y.deposit(0, coins), BAD_VALUE);
        }
        due("deposit(0, 1)", x.deposit(0, 1), 11);
    }

    @Says(in = "Promise 3", value = {"Puts coins into the cash of an investor.", "Returns the cash then"})
    static void depositIsOfOneInvestor() {
        PeerNotes x = Markets.withInvestors(10, 20);
        due("deposit(1, 5)", x.deposit(1, 5), 25);
        dueRows("investor(0, ..)", Markets.investor(x, 0), 10, 0, 0, 0, 0, 0);
        dueRows("investor(1, ..)", Markets.investor(x, 1), 25, 0, 0, 0, 0, 0);
    }

    @Says(in = "Promise 3", value = "FULL if it would be more than 2147483647.")
    static void depositToTheMost() {
        PeerNotes x = Markets.withInvestors(0, 1, MOST - 1, MOST);
        refused("deposit(1, MOST)", x, y -> y.deposit(1, MOST), FULL);
        refused("deposit(2, 2)", x, y -> y.deposit(2, 2), FULL);
        refused("deposit(2, MOST)", x, y -> y.deposit(2, MOST), FULL);
        refused("deposit(3, 1)", x, y -> y.deposit(3, 1), FULL);
        refused("deposit(3, MOST)", x, y -> y.deposit(3, MOST), FULL);
        dueRows("investor(.., 0)", Markets.investors(x, 0), 0, 1, MOST - 1, MOST);
        due("deposit(0, MOST)", x.deposit(0, MOST), MOST);
        due("deposit(1, MOST - 1)", x.deposit(1, MOST - 1), MOST);
        due("deposit(2, 1)", x.deposit(2, 1), MOST);
    }

    @Says(in = "Promise 3", value = "UNKNOWN; BAD_VALUE; FULL")
    static void theOrderOfTheErrorsOfDeposit() {
        PeerNotes x = Markets.withInvestors(MOST);
        refused("deposit(1, 0)", x, y -> y.deposit(1, 0), UNKNOWN);
        refused("deposit(1, MOST)", x, y -> y.deposit(1, MOST), UNKNOWN);
        refused("deposit(0, 0)", x, y -> y.deposit(0, 0), BAD_VALUE);
        refused("deposit(0, -1)", x, y -> y.deposit(0, -1), BAD_VALUE);
    }

    @Says(in = "Promise 3", value = "This is an act.")
    static void depositIsAnAct() {
        act("deposit(1, 7)", () -> Markets.withInvestors(3, 4), x -> x.deposit(1, 7), 11);
    }

    // ---- 4

    @Says(in = "Promise 4", value = {"- `percent`: 0 to 50", "BAD_VALUE"})
    static void sharesOf0And50AreTaken() {
        PeerNotes x = new PeerNotes();
        int[] bad = {-1, 51, LEAST, MOST, 100};
        for (int percent : bad) {
            refused("setPoolShare(" + percent + ")", x, y -> y.setPoolShare(percent), BAD_VALUE);
        }
        due("setPoolShare(0)", x.setPoolShare(0), 5);
        due("count(10)", x.count(10), 0);
        due("setPoolShare(50)", x.setPoolShare(50), 0);
        due("count(10)", x.count(10), 50);
    }

    @Says(in = "Promise 4", value = "Returns the previous one")
    static void thePreviousShare() {
        PeerNotes x = new PeerNotes();
        due("setPoolShare(6), the first", x.setPoolShare(6), 5);
        due("setPoolShare(50)", x.setPoolShare(50), 6);
        due("setPoolShare(49)", x.setPoolShare(49), 50);
        due("undo()", x.undo(), 2);
        due("setPoolShare(1)", x.setPoolShare(1), 50);
    }

    @Says(in = "Promise 4", value = "NONE if it is so already.")
    static void theSameShare() {
        PeerNotes x = new PeerNotes();
        refused("setPoolShare(5)", x, y -> y.setPoolShare(5), NONE);
        x.setPoolShare(0);
        refused("setPoolShare(0)", x, y -> y.setPoolShare(0), NONE);
        x.undo();
        refused("setPoolShare(5)", x, y -> y.setPoolShare(5), NONE);
        due("setPoolShare(0)", x.setPoolShare(0), 5);
    }

    @Says(in = "Promise 4", value = "Sets the share of the pool. This is an act.")
    static void setPoolShareIsAnAct() {
        act("setPoolShare(0)", PeerNotes::new, x -> x.setPoolShare(0), 49);
    }

    // ---- 5

    private static void dueOpened(int amount, int rate, int months) {
        PeerNotes x = new PeerNotes();
        due("openLoan(" + amount + ", " + rate + ", " + months + ")", x.openLoan(amount, rate, months), 0);
        dueRows("loan(0, ..)", Markets.loan(x, 0), 0, amount, 0, NONE, 0, 0, 0, 0, NONE, amount, 0, 0, 0);
    }

    private static void dueNotOpened(int amount, int rate, int months) {
        PeerNotes x = new PeerNotes();
        refused("openLoan(" + amount + ", " + rate + ", " + months + ")", x, y -> y.openLoan(amount, rate, months),
            BAD_VALUE);
        due("count(2)", x.count(2), 0);
    }

    @Says(in = "Promise 5", value = {"- `amount`: 100 to 99999", "BAD_VALUE"})
    static void amountsFrom100To99999() {
        int[] bad = {99, 100000, 0, -100, LEAST, MOST};
        for (int amount : bad) {
            dueNotOpened(amount, 10, 10);
        }
        dueOpened(100, 10, 10);
        dueOpened(99999, 10, 10);
    }

    @Says(in = "Promise 5", value = {"- `rate`: 0 to 50", "BAD_VALUE"})
    static void ratesFrom0To50() {
        int[] bad = {-1, 51, LEAST, MOST};
        for (int rate : bad) {
            dueNotOpened(1000, rate, 10);
        }
        dueOpened(1000, 0, 10);
        dueOpened(1000, 50, 10);
    }

    @Says(in = "Promise 5", value = {"- `months`: 1 to 36", "BAD_VALUE"})
    static void monthsFrom1To36() {
        int[] bad = {0, 37, -1, LEAST, MOST};
        for (int months : bad) {
            dueNotOpened(1000, 10, months);
        }
        dueOpened(1000, 10, 1);
        dueOpened(1000, 10, 36);
    }

    @Says(in = "Promise 5", value = {"Returns its number", "FULL if there are 10."})
    static void theEleventhLoan() {
        PeerNotes x = new PeerNotes();
        for (int i = 0; i < 10; i++) {
            due("openLoan", x.openLoan(1000 + i, 10, 10), i);
        }
        refused("openLoan, the eleventh", x, y -> y.openLoan(1000, 10, 10), FULL);
        due("undo()", x.undo(), 3);
        due("openLoan, the tenth again", x.openLoan(777, 10, 10), 9);
        due("loan(9, 1)", x.loan(9, 1), 777);
    }

    @Says(in = "Promise 5", value = "BAD_VALUE; FULL")
    static void openLoanTellsABadValueFirst() {
        PeerNotes x = new PeerNotes();
        for (int i = 0; i < 10; i++) {
            x.openLoan(1000, 10, 10);
        }
        refused("openLoan(99, 10, 10), the eleventh", x, y -> y.openLoan(99, 10, 10), BAD_VALUE);
        refused("openLoan(100, 51, 10), the eleventh", x, y -> y.openLoan(100, 51, 10), BAD_VALUE);
        refused("openLoan(100, 10, 0), the eleventh", x, y -> y.openLoan(100, 10, 0), BAD_VALUE);
    }

    @Says(in = "Promise 5", value = "Opens a loan for funding. This is an act.")
    static void openLoanIsAnAct() {
        act("openLoan(100, 1, 1)", PeerNotes::new, x -> x.openLoan(100, 1, 1), 0);
        act("openLoan(100, 1, 1)", Markets::ofEachState, x -> x.openLoan(100, 1, 1), 5);
    }

    // ---- 6

    @Says(in = "Promise 6", value = {"- `investor`: an investor", "UNKNOWN (investor or loan)"})
    static void fundByTheLastInvestorAndByTheNext() {
        PeerNotes x = Markets.withInvestors(500, 500);
        x.openLoan(1000, 0, 1);
        int[] none = {-1, 2, 8, LEAST, MOST};
        for (int investor : none) {
            refused("fund(" + investor + ", 0, false, 1)", x, y -> y.fund(investor, 0, false, 1), UNKNOWN);
        }
        due("fund(1, 0, false, 1)", x.fund(1, 0, false, 1), 999);
        due("fund(0, 0, false, 1)", x.fund(0, 0, false, 1), 998);
    }

    @Says(in = "Promise 6", value = {"- `loan`: a loan", "UNKNOWN (investor or loan)"})
    static void fundTheLastLoanAndTheNext() {
        PeerNotes x = Markets.withInvestors(500);
        x.openLoan(1000, 0, 1);
        x.openLoan(2000, 0, 1);
        int[] none = {-1, 2, 10, LEAST, MOST};
        for (int loan : none) {
            refused("fund(0, " + loan + ", false, 1)", x, y -> y.fund(0, loan, false, 1), UNKNOWN);
        }
        due("fund(0, 1, false, 1)", x.fund(0, 1, false, 1), 1999);
        due("fund(0, 0, false, 1)", x.fund(0, 0, false, 1), 999);
    }

    @Says(in = "Promise 6", value = "- `junior`: whether the note is junior")
    static void bothClasses() {
        PeerNotes x = Markets.withInvestors(500);
        x.openLoan(1000, 0, 1);
        x.fund(0, 0, true, 3);
        x.fund(0, 0, false, 4);
        dueRows("note(.., 2)", Markets.notes(x, 2), 1, 0);
        due("loan(0, 11)", x.loan(0, 11), 4);
        due("loan(0, 12)", x.loan(0, 12), 3);
    }

    @Says(in = "Promise 6", value = {"- `coins`: 1 to 99999", "BAD_VALUE"})
    static void fundingsFrom1To99999() {
        PeerNotes x = Markets.withInvestors(MOST);
        x.openLoan(99999, 0, 1);
        x.openLoan(99999, 0, 1);
        int[] bad = {0, -1, 100000, LEAST, MOST};
        for (int coins : bad) {
            refused("fund(0, 0, false, " + coins + ")", x, y -> y.fund(0, 0, false, coins), BAD_VALUE);
        }
        due("fund(0, 0, false, 1)", x.fund(0, 0, false, 1), 99998);
        due("fund(0, 1, false, 99999)", x.fund(0, 1, false, 99999), 0);
    }

    @Says(in = "Promise 6", value = "Returns the coins that are missing then")
    static void whatIsMissingThen() {
        PeerNotes x = Markets.withInvestors(500);
        x.openLoan(100, 0, 1);
        due("fund 1", x.fund(0, 0, false, 1), 99);
        due("fund 98", x.fund(0, 0, true, 98), 1);
        due("loan(0, 9)", x.loan(0, 9), 1);
        due("fund 1", x.fund(0, 0, false, 1), 0);
        due("loan(0, 9)", x.loan(0, 9), 0);
    }

    @Says(in = "Promise 6", value = "NOT_POSSIBLE if it is not in funding")
    static void fundInEachState() {
        PeerNotes x = Markets.ofEachState();
        for (int loan = 1; loan <= 4; loan++) {
            int number = loan;
            refused("fund(0, " + loan + ", false, 1)", x, y -> y.fund(0, number, false, 1), NOT_POSSIBLE);
        }
        due("fund(0, 0, false, 1)", x.fund(0, 0, false, 1), 699);
    }

    @Says(in = "Promise 6", value = "not so many are missing")
    static void fundAllThatIsMissingAndOneMore() {
        PeerNotes x = Markets.withInvestors(5000);
        x.openLoan(1000, 0, 1);
        refused("fund(0, 0, false, 1001)", x, y -> y.fund(0, 0, false, 1001), NOT_POSSIBLE);
        due("fund(0, 0, false, 400)", x.fund(0, 0, false, 400), 600);
        refused("fund(0, 0, true, 601)", x, y -> y.fund(0, 0, true, 601), NOT_POSSIBLE);
        refused("fund(0, 0, true, 99999)", x, y -> y.fund(0, 0, true, 99999), NOT_POSSIBLE);
        due("fund(0, 0, true, 600)", x.fund(0, 0, true, 600), 0);
    }

    @Says(in = "Promise 6", value = "or the investor has not so many")
    static void fundWithAllCashAndOneMore() {
        PeerNotes x = Markets.withInvestors(300, 0, 5000);
        x.openLoan(1000, 0, 1);
        refused("fund(0, 0, false, 301)", x, y -> y.fund(0, 0, false, 301), NOT_POSSIBLE);
        refused("fund(1, 0, false, 1)", x, y -> y.fund(1, 0, false, 1), NOT_POSSIBLE);
        due("fund(0, 0, false, 300)", x.fund(0, 0, false, 300), 700);
        dueRows("investor(.., 0)", Markets.investors(x, 0), 0, 0, 5000);
        refused("fund(0, 0, false, 1)", x, y -> y.fund(0, 0, false, 1), NOT_POSSIBLE);
    }

    @Says(in = "Promise 6", value = "FULL if there are 60 notes.")
    static void theSixtyFirstNote() {
        PeerNotes x = Markets.sixtyNotes();
        refused("fund(0, 0, false, 1), the 61st", x, y -> y.fund(0, 0, false, 1), FULL);
        x.openLoan(100, 0, 1);
        refused("fund(0, 1, false, 1), the 61st", x, y -> y.fund(0, 1, false, 1), FULL);
        x.undo();
        due("undo()", x.undo(), 2);
        due("count(8)", x.count(8), 59);
        due("fund(0, 0, false, 7), the 60th again", x.fund(0, 0, false, 7), 4934);
        due("note(59, 4)", x.note(59, 4), 7);
        refused("fund(0, 0, false, 1), the 61st", x, y -> y.fund(0, 0, false, 1), FULL);
    }

    @Says(in = "Promise 6", value = "UNKNOWN (investor or loan); BAD_VALUE; NOT_POSSIBLE")
    static void theOrderOfTheErrorsOfFund() {
        PeerNotes x = Markets.ofEachState();
        refused("fund(2, 1, false, 0)", x, y -> y.fund(2, 1, false, 0), UNKNOWN);
        refused("fund(0, 5, false, 0)", x, y -> y.fund(0, 5, false, 0), UNKNOWN);
        refused("fund(-1, 5, false, 1)", x, y -> y.fund(-1, 5, false, 1), UNKNOWN);
        refused("fund(0, 1, false, 0) when it runs", x, y -> y.fund(0, 1, false, 0), BAD_VALUE);
        refused("fund(0, 0, false, 100000)", x, y -> y.fund(0, 0, false, 100000), BAD_VALUE);
        PeerNotes full = Markets.sixtyNotes();
        refused("fund(1, 0, false, 1), the 61st", full, y -> y.fund(1, 0, false, 1), UNKNOWN);
        refused("fund(0, 1, false, 1), the 61st", full, y -> y.fund(0, 1, false, 1), UNKNOWN);
        refused("fund(0, 0, false, 0), the 61st", full, y -> y.fund(0, 0, false, 0), BAD_VALUE);
        refused("fund(0, 0, false, 4941), the 61st", full, y -> y.fund(0, 0, false, 4941), NOT_POSSIBLE);
        refused("fund(0, 0, false, 1001), the 61st", full, y -> y.fund(0, 0, false, 1001), NOT_POSSIBLE);
        full.giveUp(0);
        refused("fund(0, 0, false, 1), the 61st, given up", full, y -> y.fund(0, 0, false, 1), NOT_POSSIBLE);
    }

    @Says(in = "Promise 6", value = "Funds a part of a loan: a note. This is an act.")
    static void fundIsAnAct() {
        act("fund(0, 0, true, 5)", Markets::ofEachState, x -> x.fund(0, 0, true, 5), 695);
        act("fund(0, 0, false, 700), so that it runs", Markets::ofEachState, x -> x.fund(0, 0, false, 700), 0);
    }

    // ---- 7

    @Says(in = "Promise 7", value = {"- `loan`: a loan", "UNKNOWN"})
    static void giveUpTheLastLoanAndTheNext() {
        PeerNotes x = new PeerNotes();
        x.openLoan(100, 0, 1);
        x.openLoan(100, 0, 1);
        int[] none = {-1, 2, 10, LEAST, MOST};
        for (int loan : none) {
            refused("giveUp(" + loan + ")", x, y -> y.giveUp(loan), UNKNOWN);
        }
        due("giveUp(1)", x.giveUp(1), 0);
        due("loan(0, 0)", x.loan(0, 0), 0);
        due("loan(1, 0)", x.loan(1, 0), 4);
    }

    @Says(in = "Promise 7", value = {"Gives up a loan that is in funding: the principals of its notes are paid back to the "
        + "cash of their investors, and are 0 then.", "Returns the coins that are paid back"})
    static void giveUpWithoutNotesAndWithAllButACoin() {
        PeerNotes x = Markets.withInvestors(1000, 1000);
        x.openLoan(500, 0, 1);
        x.openLoan(500, 0, 1);
        due("giveUp(0) without notes", x.giveUp(0), 0);
        x.fund(0, 1, false, 200);
        x.fund(1, 1, true, 250);
        x.fund(0, 1, true, 49);
        due("giveUp(1)", x.giveUp(1), 499);
        dueRows("investor(0, ..)", Markets.investor(x, 0), 1000, 0, 0, 0, 0, 0);
        dueRows("investor(1, ..)", Markets.investor(x, 1), 1000, 0, 0, 0, 0, 0);
        dueRows("note(0, ..)", Markets.note(x, 0), 0, 1, 0, 0, 200, 0, 0);
        dueRows("note(1, ..)", Markets.note(x, 1), 1, 1, 1, 0, 250, 0, 0);
        dueRows("loan(1, ..)", Markets.loan(x, 1), 4, 500, 0, NONE, 0, 0, 0, 0, NONE, 0, 3, 0, 0);
        due("count(13): it is no loss", x.count(13), 0);
    }

    @Says(in = "Promise 7", value = "the principals of its notes are paid back")
    static void giveUpLeavesTheNotesOfOthers() {
        PeerNotes x = Markets.ofEachState();
        int cash = x.investor(0, 0);
        due("giveUp(0)", x.giveUp(0), 300);
        due("investor(0, 0)", x.investor(0, 0), cash + 300);
        dueRows("note(.., 3)", Markets.notes(x, 3), 0, 600, 400, 0, 0, 0);
    }

    @Says(in = "Promise 7", value = "the principals of its notes are paid back")
    static void giveUpPaysNoInterest() {
        PeerNotes x = Markets.seniorAndJunior();
        x.openLoan(500, 0, 1);
        x.fund(0, 1, false, 100);
        x.pass(1);
        x.pay(0, 50);
        due("giveUp(1) after a payment", x.giveUp(1), 100);
        dueRows("investor(.., 0)", Markets.investors(x, 0), 9429, 9619);
        dueRows("investor(.., 4)", Markets.investors(x, 4), 29, 19);
        dueRows("note(.., 5)", Markets.notes(x, 5), 29, 19, 0);
    }

    @Says(in = "Promise 7", value = "NOT_POSSIBLE if it is not in funding")
    static void giveUpInEachState() {
        PeerNotes x = Markets.ofEachState();
        for (int loan = 1; loan <= 4; loan++) {
            int number = loan;
            refused("giveUp(" + loan + ")", x, y -> y.giveUp(number), NOT_POSSIBLE);
        }
        due("giveUp(0)", x.giveUp(0), 300);
        refused("giveUp(0) again", x, y -> y.giveUp(0), NOT_POSSIBLE);
    }

    @Says(in = "Promise 7", value = "FULL if a cash would be more than 2147483647.")
    static void giveUpToTheMost() {
        PeerNotes x = Markets.withInvestors(1000, 1000);
        x.openLoan(500, 0, 1);
        x.fund(0, 0, false, 100);
        x.fund(1, 0, false, 100);
        x.fund(1, 0, true, 50);
        x.deposit(1, MOST - 850 - 149);
        refused("giveUp(0): one coin too many for investor 1", x, y -> y.giveUp(0), FULL);
        dueRows("investor(.., 0)", Markets.investors(x, 0), 900, MOST - 149);
        dueRows("note(.., 3)", Markets.notes(x, 3), 100, 100, 50);
        due("loan(0, 0)", x.loan(0, 0), 0);
        x.undo();
        x.deposit(1, MOST - 850 - 150);
        due("giveUp(0)", x.giveUp(0), 250);
        dueRows("investor(.., 0)", Markets.investors(x, 0), 1000, MOST);
    }

    @Says(in = "Promise 7", value = "FULL if a cash would be more than 2147483647.")
    static void giveUpWithoutNotesNeedsNoRoom() {
        PeerNotes x = Markets.withInvestors(MOST);
        x.openLoan(500, 0, 1);
        due("giveUp(0)", x.giveUp(0), 0);
    }

    @Says(in = "Promise 7", value = "This is an act.")
    static void giveUpIsAnAct() {
        act("giveUp(0)", Markets::ofEachState, x -> x.giveUp(0), 300);
    }

    // ---- 8

    @Says(in = "Promise 8", value = {"- `loan`: a loan", "UNKNOWN"})
    static void payForTheLastLoanAndTheNext() {
        PeerNotes x = Markets.seniorAndJunior();
        int[] none = {-1, 1, 10, LEAST, MOST};
        for (int loan : none) {
            refused("pay(" + loan + ", 1)", x, y -> y.pay(loan, 1), UNKNOWN);
        }
        due("pay(0, 1)", x.pay(0, 1), 999);
    }

    @Says(in = "Promise 8", value = {"- `coins`: 1 to 199999", "BAD_VALUE"})
    static void paymentsFrom1To199999() {
        PeerNotes x = Markets.running(99999, 50, 36);
        x.pass(24);
        // 119976 of interest and 99999 of principal are due.
        int[] bad = {0, -1, 200000, LEAST, MOST};
        for (int coins : bad) {
            refused("pay(0, " + coins + ")", x, y -> y.pay(0, coins), BAD_VALUE);
        }
        due("pay(0, 1)", x.pay(0, 1), 99999);
        due("loan(0, 4)", x.loan(0, 4), 119975);
        // The fee is 999: 199000 are split on.
        due("pay(0, 199999)", x.pay(0, 199999), 99999 - (199000 - 119975));
    }

    @Says(in = "Promise 8", value = "Returns the principal of the loan then")
    static void thePrincipalThen() {
        PeerNotes x = Markets.seniorAndJunior();
        x.pass(1);
        due("pay(0, 50): interest alone", x.pay(0, 50), 1000);
        due("pay(0, 1)", x.pay(0, 1), 999);
        due("loan(0, 2)", x.loan(0, 2), 999);
        due("pay, all but a coin", x.pay(0, x.toRepay(0) - 1), 1);
        due("pay, the last coin", x.pay(0, 1), 0);
    }

    @Says(in = "Promise 8", value = "NOT_POSSIBLE if it does not run")
    static void payInEachState() {
        PeerNotes x = Markets.ofEachState();
        int[] others = {0, 2, 3, 4};
        for (int loan : others) {
            refused("pay(" + loan + ", 1)", x, y -> y.pay(loan, 1), NOT_POSSIBLE);
        }
        due("pay(1, 1)", x.pay(1, 1), 1000);
    }

    @Says(in = "Promise 8",
        value = "or the coins less the fee are more than the interest due and the principal together")
    static void payAllThatIsOwedAndOneMore() {
        // 50 of interest and 1000 of principal are owed: the fewest coins that leave 1050, and the fewest that leave 1051.
        int[][] coinsByServicer = {{1055, 1056}, {1060, 1061}, {1071, 1072}, {1093, 1094}};
        for (int servicer = 0; servicer < 4; servicer++) {
            int[] coins = coinsByServicer[servicer];
            PeerNotes x = Markets.runningWith(servicer, 1000, 50, 10);
            refused("pay(0, " + coins[1] + ") with servicer " + servicer, x, y -> y.pay(0, coins[1]), NOT_POSSIBLE);
            refused("pay(0, 199999)", x, y -> y.pay(0, 199999), NOT_POSSIBLE);
            due("pay(0, " + coins[0] + ") with servicer " + servicer, x.pay(0, coins[0]), 0);
        }
    }

    @Says(in = "Promise 8",
        value = "or the coins less the fee are more than the interest due and the principal together")
    static void moreCoinsThanTheFewestThatRepay() {
        PeerNotes x = Markets.running(199, 0, 1);
        // 199 coins leave 199, and 200 less a fee of 1 do too.
        due("pay(0, 200)", x.pay(0, 200), 0);
        due("servicer(0, 1)", x.servicer(0, 1), 1);
        x.undo();
        refused("pay(0, 201)", x, y -> y.pay(0, 201), NOT_POSSIBLE);
        due("pay(0, 199)", x.pay(0, 199), 0);
        due("servicer(0, 1)", x.servicer(0, 1), 0);
    }

    @Says(in = "Promise 8", value = "FULL if a cash would be more than 2147483647.")
    static void payPrincipalToTheMost() {
        PeerNotes x = Markets.running(1000, 0, 10);
        x.deposit(0, MOST - x.investor(0, 0) - 99);
        refused("pay(0, 100)", x, y -> y.pay(0, 100), FULL);
        due("loan(0, 2)", x.loan(0, 2), 1000);
        due("pay(0, 99)", x.pay(0, 99), 901);
        due("investor(0, 0)", x.investor(0, 0), MOST);
        refused("pay(0, 1)", x, y -> y.pay(0, 1), FULL);
    }

    @Says(in = "Promise 8", value = "FULL if a cash would be more than 2147483647.")
    static void payInterestToTheMost() {
        PeerNotes x = Markets.running(1000, 50, 10);
        x.setPoolShare(50);
        x.pass(1);
        x.deposit(0, MOST - x.investor(0, 0) - 24);
        // What goes to the pool needs no room: of 50 it is 25, of 49 it is 24.
        refused("pay(0, 50)", x, y -> y.pay(0, 50), FULL);
        refused("pay(0, 49)", x, y -> y.pay(0, 49), FULL);
        due("pay(0, 48)", x.pay(0, 48), 1000);
        due("investor(0, 0)", x.investor(0, 0), MOST);
        due("count(9)", x.count(9), 24);
    }

    @Says(in = "Promise 8", value = "FULL if a cash would be more than 2147483647.")
    static void payInterestAndPrincipalToTheMost() {
        PeerNotes x = Markets.withInvestors(1000);
        x.openLoan(1000, 10, 10);
        x.setPoolShare(0);
        x.fund(0, 0, false, 500);
        x.fund(0, 0, true, 500);
        x.pass(1);
        x.deposit(0, MOST - 14);
        // 10 of interest, 5 for each note, and 5 of principal: each part has room, all of them have not.
        refused("pay(0, 15)", x, y -> y.pay(0, 15), FULL);
        due("loan(0, 4)", x.loan(0, 4), 10);
        due("count(9)", x.count(9), 0);
        due("pay(0, 14)", x.pay(0, 14), 996);
        due("investor(0, 0)", x.investor(0, 0), MOST);
    }

    @Says(in = "Promise 8", value = "FULL if a cash would be more than 2147483647.")
    static void oneCashThatIsFullRefusesAll() {
        PeerNotes x = Markets.noteByNote(0, 1, 50, -50);
        x.deposit(1, MOST);
        due("pay(0, 50): the junior gets nothing", x.pay(0, 50), 50);
        refused("pay(0, 1)", x, y -> y.pay(0, 1), FULL);
        x.undo();
        refused("pay(0, 51)", x, y -> y.pay(0, 51), FULL);
        dueRows("investor(.., 0): nobody got anything", Markets.investors(x, 0), 0, MOST);
        dueRows("note(.., 3)", Markets.notes(x, 3), 50, 50);
    }

    @Says(in = "Promise 8", value = "UNKNOWN; BAD_VALUE; NOT_POSSIBLE")
    static void theOrderOfTheErrorsOfPay() {
        PeerNotes x = Markets.ofEachState();
        refused("pay(5, 0)", x, y -> y.pay(5, 0), UNKNOWN);
        refused("pay(0, 0) in funding", x, y -> y.pay(0, 0), BAD_VALUE);
        refused("pay(0, 200000) in funding", x, y -> y.pay(0, 200000), BAD_VALUE);
        PeerNotes rich = Markets.running(1000, 0, 10);
        rich.deposit(0, MOST - rich.investor(0, 0));
        refused("pay(0, 1006): too many, and no room", rich, y -> y.pay(0, 1006), NOT_POSSIBLE);
        refused("pay(0, 1005): no room", rich, y -> y.pay(0, 1005), FULL);
    }

    @Says(in = "Promise 8", value = "Pays for a loan. This is an act.")
    static void payIsAnAct() {
        act("pay(1, 445)", Markets::ofEachState, x -> x.pay(1, 445), 597);
        act("pay(1, 1045), so that it is repaid", Markets::ofEachState, x -> x.pay(1, 1045), 0);
    }

    // ---- 9

    /** Loan 0 of 1000 without interest: its months in arrears are one fewer than those that passed. */
    private static PeerNotes inArrears(int months) {
        PeerNotes x = Markets.running(1000, 0, 10);
        x.pass(months + 1);
        return x;
    }

    @Says(in = "Promise 9", value = {"- `loan`: a loan", "UNKNOWN"})
    static void cureTheLastLoanAndTheNext() {
        PeerNotes x = inArrears(1);
        int[] none = {-1, 1, 10, LEAST, MOST};
        for (int loan : none) {
            refused("cure(" + loan + ", 10)", x, y -> y.cure(loan, 10), UNKNOWN);
        }
        due("cure(0, 10)", x.cure(0, 10), 100);
    }

    @Says(in = "Promise 9", value = {"- `months`: 1 to 36", "BAD_VALUE"})
    static void cureFor1To36Months() {
        int[] bad = {0, 37, -1, LEAST, MOST};
        for (int months : bad) {
            refused("cure(0, " + months + ")", inArrears(1), y -> y.cure(0, months), BAD_VALUE);
        }
        due("cure(0, 1)", inArrears(1).cure(0, 1), 1000);
        due("cure(0, 36)", inArrears(1).cure(0, 36), 28);
    }

    @Says(in = "Promise 9", value = {"Cures the arrears of a loan: no principal is due, it is 0 months in arrears, and its "
        + "instalment is principal / months, rounded up.", "Returns the new instalment"})
    static void theNewInstalmentIsRoundedUp() {
        // Of a principal of 999.
        int[][] monthsAndInstalments = {{1, 999}, {2, 500}, {3, 333}, {9, 111}, {10, 100}, {27, 37}, {28, 36}, {36, 28}};
        for (int[] row : monthsAndInstalments) {
            PeerNotes x = inArrears(2);
            due("pay(0, 1)", x.pay(0, 1), 999);
            due("cure(0, " + row[0] + ")", x.cure(0, row[0]), row[1]);
            dueRows("loan(0, ..)", Markets.loan(x, 0), 1, 1000, 999, row[1], 0, 0, 0, 0, NONE, 0, 1, 999, 0);
            x.pass(1);
            due("loan(0, 5) after a month", x.loan(0, 5), row[1]);
            due("loan(0, 6) after a month", x.loan(0, 6), 0);
        }
    }

    @Says(in = "Promise 9", value = "its instalment is principal / months, rounded up")
    static void cureAPrincipalOfOneCoin() {
        PeerNotes x = inArrears(12);
        due("pay, all but a coin", x.pay(0, x.toRepay(0) - 1), 1);
        due("loan(0, 5)", x.loan(0, 5), 1);
        due("cure(0, 36)", x.cure(0, 36), 1);
    }

    @Says(in = "Promise 9", value = "no principal is due, it is 0 months in arrears")
    static void cureLeavesTheOrderOfASwitch() {
        PeerNotes x = inArrears(5);
        x.switchServicer(0, 2);
        due("cure(0, 10)", x.cure(0, 10), 100);
        due("loan(0, 8)", x.loan(0, 8), 2);
        due("count(14)", x.count(14), 0);
    }

    @Says(in = "Promise 9", value = "NOT_POSSIBLE if it does not run")
    static void cureInEachState() {
        PeerNotes x = Markets.ofEachState();
        int[] others = {0, 2, 3, 4};
        for (int loan : others) {
            refused("cure(" + loan + ", 1)", x, y -> y.cure(loan, 1), NOT_POSSIBLE);
        }
        x.pay(1, 40);
        due("cure(1, 1)", x.cure(1, 1), 1000);
    }

    @Says(in = "Promise 9", value = "is 0 months in arrears")
    static void cureOf0And1MonthsInArrears() {
        PeerNotes x = inArrears(0);
        due("loan(0, 5)", x.loan(0, 5), 100);
        refused("cure(0, 5): due, but 0 months in arrears", x, y -> y.cure(0, 5), NOT_POSSIBLE);
        x.pass(1);
        due("cure(0, 5): 1 month in arrears", x.cure(0, 5), 200);
        refused("cure(0, 5) again", x, y -> y.cure(0, 5), NOT_POSSIBLE);
        refused("cure(0, 5) of a loan that just runs", Markets.running(100, 0, 1), y -> y.cure(0, 5), NOT_POSSIBLE);
    }

    @Says(in = "Promise 9", value = "or interest is due.")
    static void cureWithOneCoinOfInterest() {
        PeerNotes x = Markets.running(1000, 10, 10);
        x.pass(3);
        refused("cure(0, 5) with 30 coins of interest", x, y -> y.cure(0, 5), NOT_POSSIBLE);
        x.pay(0, 29);
        refused("cure(0, 5) with 1 coin of interest", x, y -> y.cure(0, 5), NOT_POSSIBLE);
        x.pay(0, 1);
        due("cure(0, 5) without interest", x.cure(0, 5), 200);
    }

    @Says(in = "Promise 9", value = "UNKNOWN; BAD_VALUE; NOT_POSSIBLE")
    static void theOrderOfTheErrorsOfCure() {
        PeerNotes x = Markets.ofEachState();
        refused("cure(5, 0)", x, y -> y.cure(5, 0), UNKNOWN);
        refused("cure(0, 0) in funding", x, y -> y.cure(0, 0), BAD_VALUE);
        refused("cure(1, 37) with interest", x, y -> y.cure(1, 37), BAD_VALUE);
    }

    @Says(in = "Promise 9", value = "This is an act.")
    static void cureIsAnAct() {
        act("cure(0, 7)", () -> inArrears(3), x -> x.cure(0, 7), 143);
    }

    // ---- 10

    @Says(in = "Promise 10", value = {"- `loan`: a loan", "UNKNOWN"})
    static void sellTheLastLoanAndTheNext() {
        PeerNotes x = inArrears(3);
        int[] none = {-1, 1, 10, LEAST, MOST};
        for (int loan : none) {
            refused("sell(" + loan + ", 0)", x, y -> y.sell(loan, 0), UNKNOWN);
        }
        due("sell(0, 0)", x.sell(0, 0), 1000);
    }

    @Says(in = "Promise 10", value = {"- `price`: 0 to 99999", "BAD_VALUE"})
    static void pricesOfLoansFrom0To99999() {
        int[] bad = {-1, 100000, LEAST, MOST};
        for (int price : bad) {
            refused("sell(0, " + price + ")", inArrears(3), y -> y.sell(0, price), BAD_VALUE);
        }
        due("sell(0, 0)", inArrears(3).sell(0, 0), 1000);
        PeerNotes x = inArrears(3);
        due("sell(0, 99999)", x.sell(0, 99999), 0);
        due("count(9)", x.count(9), 98999);
    }

    @Says(in = "Promise 10", value = {"Sells a loan.", "Returns the losses of all notes together"})
    static void theLossesOfAllNotesOfTheLoan() {
        PeerNotes x = Markets.withInvestors(10000);
        for (int i = 0; i < 2; i++) {
            x.openLoan(1000, 0, 10);
            x.fund(0, i, false, 500);
            x.fund(0, i, true, 500);
        }
        x.pass(4);
        due("sell(0, 300)", x.sell(0, 300), 700);
        due("sell(1, 999)", x.sell(1, 999), 1);
        due("investor(0, 5)", x.investor(0, 5), 701);
        due("count(13)", x.count(13), 701);
    }

    @Says(in = "Promise 10", value = "NOT_POSSIBLE if it does not run")
    static void sellInEachState() {
        PeerNotes x = Markets.ofEachState();
        int[] others = {0, 2, 3, 4};
        for (int loan : others) {
            refused("sell(" + loan + ", 0)", x, y -> y.sell(loan, 0), NOT_POSSIBLE);
        }
        // The pool has 2 coins of the interest of loan 2.
        due("sell(1, 0)", x.sell(1, 0), 998);
    }

    @Says(in = "Promise 10", value = "or is in arrears for fewer than 3 months")
    static void sellAfter2And3MonthsInArrears() {
        for (int months = 0; months < 3; months++) {
            refused("sell(0, 5) after " + months, inArrears(months), y -> y.sell(0, 5), NOT_POSSIBLE);
        }
        due("sell(0, 5) after 3", inArrears(3).sell(0, 5), 995);
        due("sell(0, 5) after 4", inArrears(4).sell(0, 5), 995);
    }

    @Says(in = "Promise 10", value = "FULL if a cash would be more than 2147483647.")
    static void sellToTheMost() {
        PeerNotes x = Markets.seniorAndJunior();
        x.pass(4);
        x.deposit(1, MOST - 9600 - 9);
        refused("sell(0, 610)", x, y -> y.sell(0, 610), FULL);
        dueRows("investor(.., 0)", Markets.investors(x, 0), 9400, MOST - 9);
        dueRows("note(.., 3)", Markets.notes(x, 3), 600, 400);
        due("count(13)", x.count(13), 0);
        due("sell(0, 609)", x.sell(0, 609), 391);
        dueRows("investor(.., 0)", Markets.investors(x, 0), 10000, MOST);
    }

    @Says(in = "Promise 10", value = "FULL if a cash would be more than 2147483647.")
    static void whatThePoolGivesNeedsRoomToo() {
        PeerNotes x = Markets.seniorAndJunior();
        x.setPoolShare(50);
        x.pass(4);
        due("pay(0, 100)", x.pay(0, 100), 1000);
        due("count(9)", x.count(9), 50);
        x.deposit(0, MOST - x.investor(0, 0) - 149);
        refused("sell(0, 100): 100 and 50 are paid", x, y -> y.sell(0, 100), FULL);
        due("count(9)", x.count(9), 50);
        due("sell(0, 99)", x.sell(0, 99), 851);
        due("investor(0, 0)", x.investor(0, 0), MOST);
        due("count(9)", x.count(9), 0);
    }

    @Says(in = "Promise 10", value = "FULL if a cash would be more than 2147483647.")
    static void whatThePoolGetsNeedsNoRoom() {
        PeerNotes x = Markets.seniorAndJunior();
        x.pass(4);
        x.deposit(0, MOST - 9400 - 600);
        x.deposit(1, MOST - 9600 - 400);
        due("sell(0, 99999)", x.sell(0, 99999), 0);
        dueRows("investor(.., 0)", Markets.investors(x, 0), MOST, MOST);
        due("count(9)", x.count(9), 98999);
    }

    @Says(in = "Promise 10", value = "UNKNOWN; BAD_VALUE; NOT_POSSIBLE")
    static void theOrderOfTheErrorsOfSell() {
        PeerNotes x = Markets.ofEachState();
        refused("sell(5, -1)", x, y -> y.sell(5, -1), UNKNOWN);
        refused("sell(0, -1) in funding", x, y -> y.sell(0, -1), BAD_VALUE);
        refused("sell(0, 100000) in funding", x, y -> y.sell(0, 100000), BAD_VALUE);
        PeerNotes rich = Markets.running(1000, 0, 10);
        rich.pass(3);
        rich.deposit(0, MOST - rich.investor(0, 0));
        refused("sell(0, 1): 2 months, and no room", rich, y -> y.sell(0, 1), NOT_POSSIBLE);
        rich.pass(1);
        refused("sell(0, 1): no room", rich, y -> y.sell(0, 1), FULL);
        due("sell(0, 0): no room is needed", rich.sell(0, 0), 1000);
    }

    @Says(in = "Promise 10", value = "This is an act.")
    static void sellIsAnAct() {
        act("sell(1, 700)", Markets::ofEachState, x -> x.sell(1, 700), 300);
    }

    // ---- 11

    @Says(in = "Promise 11", value = {"- `loan`: a loan", "UNKNOWN (loan or servicer)"})
    static void switchOfTheLastLoanAndTheNext() {
        PeerNotes x = Markets.seniorAndJunior();
        int[] none = {-1, 1, 10, LEAST, MOST};
        for (int loan : none) {
            refused("switchServicer(" + loan + ", 1)", x, y -> y.switchServicer(loan, 1), UNKNOWN);
        }
        due("switchServicer(0, 1)", x.switchServicer(0, 1), 0);
    }

    @Says(in = "Promise 11", value = {"- `servicer`: 0 to 3", "UNKNOWN (loan or servicer)"})
    static void switchToServicers0To3() {
        PeerNotes x = Markets.seniorAndJunior();
        int[] none = {-1, 4, NONE, LEAST, MOST};
        for (int servicer : none) {
            refused("switchServicer(0, " + servicer + ")", x, y -> y.switchServicer(0, servicer), UNKNOWN);
        }
        due("switchServicer(0, 3)", x.switchServicer(0, 3), 0);
        due("loan(0, 8)", x.loan(0, 8), 3);
        due("switchServicer(0, 0)", x.switchServicer(0, 0), 0);
        due("loan(0, 8)", x.loan(0, 8), 0);
    }

    @Says(in = "Promise 11", value = {"Orders that a loan gets another servicer with the next month",
        "Returns the servicer that it has now"})
    static void theServicerThatItHasNow() {
        PeerNotes x = Markets.runningWith(2, 1000, 0, 10);
        due("switchServicer(0, 1)", x.switchServicer(0, 1), 2);
        due("switchServicer(0, 3)", x.switchServicer(0, 3), 2);
        due("loan(0, 7)", x.loan(0, 7), 2);
        x.pass(1);
        due("loan(0, 7)", x.loan(0, 7), 3);
        due("switchServicer(0, 1)", x.switchServicer(0, 1), 3);
    }

    @Says(in = "Promise 11", value = "in place of one that was ordered before (also the one that it has, if another one is "
        + "ordered: that is the order then)")
    static void theServicerThatItHasIsOrdered() {
        PeerNotes x = Markets.seniorAndJunior();
        x.switchServicer(0, 3);
        due("switchServicer(0, 0)", x.switchServicer(0, 0), 0);
        due("loan(0, 8)", x.loan(0, 8), 0);
        due("count(15): it is an order", x.count(15), 1);
        x.pass(1);
        due("loan(0, 7)", x.loan(0, 7), 0);
        due("loan(0, 8)", x.loan(0, 8), NONE);
        due("count(15)", x.count(15), 0);
    }

    @Says(in = "Promise 11", value = "in place of one that was ordered before")
    static void theLastOrderCounts() {
        PeerNotes x = Markets.seniorAndJunior();
        x.switchServicer(0, 3);
        x.switchServicer(0, 1);
        due("count(15): one order", x.count(15), 1);
        x.pass(1);
        due("loan(0, 7)", x.loan(0, 7), 1);
    }

    @Says(in = "Promise 11", value = "NOT_POSSIBLE if it does not run")
    static void switchInEachState() {
        PeerNotes x = Markets.ofEachState();
        int[] others = {0, 2, 3, 4};
        for (int loan : others) {
            for (int servicer = 0; servicer < 4; servicer++) {
                int number = servicer;
                refused("switchServicer(" + loan + ", " + servicer + ")", x, y -> y.switchServicer(loan, number),
                    NOT_POSSIBLE);
            }
        }
        due("switchServicer(1, 1)", x.switchServicer(1, 1), 0);
    }

    @Says(in = "Promise 11", value = "NONE if this is ordered already, or it has this servicer and none is ordered.")
    static void whatIsOrderedAlready() {
        PeerNotes x = Markets.seniorAndJunior();
        refused("switchServicer(0, 0): it has it", x, y -> y.switchServicer(0, 0), NONE);
        x.switchServicer(0, 3);
        refused("switchServicer(0, 3): it is ordered", x, y -> y.switchServicer(0, 3), NONE);
        x.switchServicer(0, 0);
        refused("switchServicer(0, 0): it is ordered", x, y -> y.switchServicer(0, 0), NONE);
        x.pass(1);
        refused("switchServicer(0, 0): it has it", x, y -> y.switchServicer(0, 0), NONE);
        x.switchServicer(0, 2);
        x.pass(1);
        refused("switchServicer(0, 2): it has it", x, y -> y.switchServicer(0, 2), NONE);
        due("switchServicer(0, 0)", x.switchServicer(0, 0), 2);
    }

    @Says(in = "Promise 11", value = "UNKNOWN (loan or servicer); NOT_POSSIBLE")
    static void theOrderOfTheErrorsOfSwitchServicer() {
        PeerNotes x = Markets.ofEachState();
        refused("switchServicer(0, 4) in funding", x, y -> y.switchServicer(0, 4), UNKNOWN);
        refused("switchServicer(0, -1) in funding", x, y -> y.switchServicer(0, -1), UNKNOWN);
        refused("switchServicer(5, 4)", x, y -> y.switchServicer(5, 4), UNKNOWN);
        refused("switchServicer(0, 0): it does not run, and has it", x, y -> y.switchServicer(0, 0), NOT_POSSIBLE);
    }

    @Says(in = "Promise 11", value = "This is an act.")
    static void switchServicerIsAnAct() {
        act("switchServicer(1, 3)", Markets::ofEachState, x -> x.switchServicer(1, 3), 0);
    }

    // ---- 12

    @Says(in = "Promise 12", value = {"- `note`: a note", "UNKNOWN (note or investor)"})
    static void sellTheLastNoteAndTheNext() {
        PeerNotes x = Markets.seniorAndJunior();
        int[] none = {-1, 2, 60, LEAST, MOST};
        for (int note : none) {
            refused("sellNote(" + note + ", 0, 1)", x, y -> y.sellNote(note, 0, 1), UNKNOWN);
        }
        due("sellNote(1, 0, 1)", x.sellNote(1, 0, 1), 400);
        due("sellNote(0, 1, 1)", x.sellNote(0, 1, 1), 600);
    }

    @Says(in = "Promise 12", value = {"- `investor`: the buyer", "UNKNOWN (note or investor)"})
    static void sellNoteToTheLastInvestorAndToTheNext() {
        PeerNotes x = Markets.seniorAndJunior();
        x.addInvestor(50);
        int[] none = {-1, 3, 8, LEAST, MOST};
        for (int investor : none) {
            refused("sellNote(0, " + investor + ", 1)", x, y -> y.sellNote(0, investor, 1), UNKNOWN);
        }
        due("sellNote(0, 2, 1)", x.sellNote(0, 2, 1), 600);
        due("note(0, 0)", x.note(0, 0), 2);
    }

    @Says(in = "Promise 12", value = {"- `price`: 0 to 99999", "BAD_VALUE (price, or the investor has the note)"})
    static void pricesOfNotesFrom0To99999() {
        PeerNotes x = Markets.seniorAndJunior();
        x.deposit(1, 200000);
        int[] bad = {-1, 100000, LEAST, MOST};
        for (int price : bad) {
            refused("sellNote(0, 1, " + price + ")", x, y -> y.sellNote(0, 1, price), BAD_VALUE);
        }
        due("sellNote(0, 1, 99999)", x.sellNote(0, 1, 99999), 600);
        dueRows("investor(.., 0)", Markets.investors(x, 0), 109399, 109601);
        due("sellNote(0, 0, 0)", x.sellNote(0, 0, 0), 600);
        dueRows("investor(.., 0)", Markets.investors(x, 0), 109399, 109601);
    }

    @Says(in = "Promise 12", value = "BAD_VALUE (price, or the investor has the note)")
    static void theInvestorHasTheNote() {
        PeerNotes x = Markets.seniorAndJunior();
        refused("sellNote(0, 0, 1)", x, y -> y.sellNote(0, 0, 1), BAD_VALUE);
        refused("sellNote(1, 1, 0)", x, y -> y.sellNote(1, 1, 0), BAD_VALUE);
        due("sellNote(0, 1, 1)", x.sellNote(0, 1, 1), 600);
        refused("sellNote(0, 1, 1)", x, y -> y.sellNote(0, 1, 1), BAD_VALUE);
    }

    @Says(in = "Promise 12",
        value = {"Sells a note to another investor, who pays the price from cash.", "Returns the principal of the note"})
    static void sellNoteWithAndWithoutPrincipal() {
        PeerNotes x = Markets.seniorAndJunior();
        due("sellNote(0, 1, 10)", x.sellNote(0, 1, 10), 600);
        dueRows("investor(0, ..)", Markets.investor(x, 0), 9410, 0, 0, 0, 0, 0);
        dueRows("investor(1, ..)", Markets.investor(x, 1), 9590, 1000, 2, 1, 0, 0);
        // The fee is 3: the senior note has no principal then.
        due("pay(0, 603)", x.pay(0, 603), 400);
        due("sellNote(0, 0, 5)", x.sellNote(0, 0, 5), 0);
        dueRows("note(0, ..)", Markets.note(x, 0), 0, 0, 0, 0, 600, 0, 0);
    }

    @Says(in = "Promise 12", value = "NOT_POSSIBLE if its loan does not run")
    static void sellNoteInEachState() {
        PeerNotes x = Markets.ofEachState();
        // The notes of the loans 0, 2, 3 and 4, and who has them not.
        int[][] notesAndBuyers = {{0, 1}, {3, 0}, {4, 1}, {5, 0}};
        for (int[] row : notesAndBuyers) {
            refused("sellNote(" + row[0] + ", " + row[1] + ", 0)", x, y -> y.sellNote(row[0], row[1], 0), NOT_POSSIBLE);
        }
        due("sellNote(1, 1, 0)", x.sellNote(1, 1, 0), 600);
        due("sellNote(2, 0, 0)", x.sellNote(2, 0, 0), 400);
    }

    @Says(in = "Promise 12", value = "or the buyer has not so many coins")
    static void sellNoteForAllCashAndOneMore() {
        PeerNotes x = Markets.seniorAndJunior();
        x.addInvestor(77);
        x.addInvestor(0);
        refused("sellNote(0, 2, 78)", x, y -> y.sellNote(0, 2, 78), NOT_POSSIBLE);
        refused("sellNote(0, 3, 1)", x, y -> y.sellNote(0, 3, 1), NOT_POSSIBLE);
        due("sellNote(0, 3, 0)", x.sellNote(0, 3, 0), 600);
        due("sellNote(0, 2, 77)", x.sellNote(0, 2, 77), 600);
        dueRows("investor(.., 0)", Markets.investors(x, 0), 9400, 9600, 0, 77);
    }

    @Says(in = "Promise 12", value = "FULL if the cash of the seller would be more than 2147483647.")
    static void sellNoteToTheMost() {
        PeerNotes x = Markets.seniorAndJunior();
        x.deposit(0, MOST - 9400 - 10);
        refused("sellNote(0, 1, 11)", x, y -> y.sellNote(0, 1, 11), FULL);
        due("note(0, 0)", x.note(0, 0), 0);
        due("sellNote(0, 1, 10)", x.sellNote(0, 1, 10), 600);
        dueRows("investor(.., 0)", Markets.investors(x, 0), MOST, 9590);
        due("sellNote(0, 0, 99999): the buyer has the most", x.sellNote(0, 0, 99999), 600);
        dueRows("investor(.., 0)", Markets.investors(x, 0), MOST - 99999, 109589);
    }

    @Says(in = "Promise 12", value = "UNKNOWN (note or investor); BAD_VALUE (price, or the investor has the note); "
        + "NOT_POSSIBLE")
    static void theOrderOfTheErrorsOfSellNote() {
        PeerNotes x = Markets.ofEachState();
        refused("sellNote(6, 0, -1)", x, y -> y.sellNote(6, 0, -1), UNKNOWN);
        refused("sellNote(0, 2, -1)", x, y -> y.sellNote(0, 2, -1), UNKNOWN);
        refused("sellNote(0, 1, -1) in funding", x, y -> y.sellNote(0, 1, -1), BAD_VALUE);
        refused("sellNote(0, 0, 0) in funding", x, y -> y.sellNote(0, 0, 0), BAD_VALUE);
        refused("sellNote(1, 0, 99999): he has it, and not so many", x, y -> y.sellNote(1, 0, 99999), BAD_VALUE);
        PeerNotes rich = Markets.seniorAndJunior();
        rich.deposit(0, MOST - 9400);
        refused("sellNote(0, 1, 9601): not so many, and no room", rich, y -> y.sellNote(0, 1, 9601), NOT_POSSIBLE);
        refused("sellNote(0, 1, 9600): no room", rich, y -> y.sellNote(0, 1, 9600), FULL);
        due("sellNote(0, 1, 0): no room is needed", rich.sellNote(0, 1, 0), 600);
    }

    @Says(in = "Promise 12", value = "This is an act.")
    static void sellNoteIsAnAct() {
        act("sellNote(1, 1, 5)", Markets::ofEachState, x -> x.sellNote(1, 1, 5), 600);
    }

    // ---- 13

    @Says(in = "Promise 13", value = {"- `months`: 1 to 24", "BAD_VALUE"})
    static void passFrom1To24Months() {
        PeerNotes x = new PeerNotes();
        int[] bad = {0, 25, -1, LEAST, MOST};
        for (int months : bad) {
            refused("pass(" + months + ")", x, y -> y.pass(months), BAD_VALUE);
        }
        due("pass(1)", x.pass(1), 0);
        due("count(0)", x.count(0), 1);
        due("pass(24)", x.pass(24), 0);
        due("count(0)", x.count(0), 25);
    }

    @Says(in = "Promise 13", value = "Lets months pass, one after the other.")
    static void oneAfterTheOther() {
        PeerNotes x = Markets.seniorAndJunior();
        PeerNotes y = Markets.seniorAndJunior();
        x.switchServicer(0, 1);
        y.switchServicer(0, 1);
        x.pass(24);
        for (int i = 0; i < 24; i++) {
            y.pass(1);
        }
        same("pass(24), or pass(1) 24 times", Markets.told(x), Markets.told(y));
        due("loan(0, 4)", x.loan(0, 4), 24 * 50);
        due("loan(0, 5)", x.loan(0, 5), 1000);
        due("loan(0, 6)", x.loan(0, 6), 23);
    }

    @Says(in = "Promise 13",
        value = "Returns how many loans that run are in arrears (for 1 month or more) then")
    static void howManyAreInArrears() {
        PeerNotes x = Markets.withInvestors(10000);
        due("pass(1) without loans", x.pass(1), 0);
        for (int i = 0; i < 4; i++) {
            x.openLoan(100, 0, 1);
            x.fund(0, i, false, i == 3 ? 99 : 100);
        }
        due("pass(1): due, but not in arrears", x.pass(1), 0);
        due("pass(1): three that run", x.pass(1), 3);
        x.pay(0, 100);
        due("pass(1): one is repaid", x.pass(1), 2);
        due("sell(1, 0)", x.sell(1, 0), NOT_POSSIBLE);
        due("pass(1)", x.pass(1), 2);
        due("sell(1, 0)", x.sell(1, 0), 100);
        due("pass(1): one is sold", x.pass(1), 1);
    }

    @Says(in = "Promise 13", value = "NOT_POSSIBLE if it would be more than 240 months since the beginning.")
    static void theLastMonth() {
        PeerNotes x = new PeerNotes();
        for (int i = 0; i < 9; i++) {
            x.pass(24);
        }
        x.pass(1);
        due("count(0)", x.count(0), 217);
        refused("pass(24)", x, y -> y.pass(24), NOT_POSSIBLE);
        due("count(0)", x.count(0), 217);
        due("pass(22)", x.pass(22), 0);
        refused("pass(2)", x, y -> y.pass(2), NOT_POSSIBLE);
        due("pass(1)", x.pass(1), 0);
        due("count(0)", x.count(0), 240);
        refused("pass(1)", x, y -> y.pass(1), NOT_POSSIBLE);
        due("undo()", x.undo(), 3);
        due("pass(1) after undo()", x.pass(1), 0);
        PeerNotes y = new PeerNotes();
        for (int i = 0; i < 10; i++) {
            due("pass(24)", y.pass(24), 0);
        }
        due("count(0)", y.count(0), 240);
    }

    @Says(in = "Promise 13", value = "BAD_VALUE; NOT_POSSIBLE")
    static void theOrderOfTheErrorsOfPass() {
        PeerNotes x = Markets.atTheLastMonth();
        refused("pass(0) at the last month", x, y -> y.pass(0), BAD_VALUE);
        refused("pass(25) at the last month", x, y -> y.pass(25), BAD_VALUE);
        refused("pass(24) at the last month", x, y -> y.pass(24), NOT_POSSIBLE);
    }

    @Says(in = "Promise 13", value = "This is an act.")
    static void passIsAnAct() {
        act("pass(3)", Markets::ofEachState, x -> x.pass(3), 1);
    }
}
