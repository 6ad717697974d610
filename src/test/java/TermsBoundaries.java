import java.util.List;

/** The boundary cases of the sections "What it is" and "Terms", a test each. */
public final class TermsBoundaries extends Sentences {
    public static void main(String[] args) {
        run(TermsBoundaries.class);
    }

    // ---- What it is

    @Says(in = "What it is", value = "Lending among peers: loans that are funded in parts, each part a note of a senior or a "
        + "junior class, payments that are split by a told order into fee, interest and principal, to the last coin by notes, "
        + "arrears that are cured or sold, a pool that makes good for seniors, servicers that are switched with the next "
        + "month, notes that are sold to others, fundings that are read from a text with the places of faults, what a payment "
        + "would do, accounts, undo and a snapshot.")
    static void oneOfEachThing() {
        PeerNotes x = Markets.withInvestors(5000, 5000);
        due("openLoan(1000, 30, 4)", x.openLoan(1000, 30, 4), 0);
        due("read a text with a fault", Markets.read(x, "0>0s500;1>0x100;1>0j400"), -111);
        due("read a text", Markets.read(x, "0>0s500;1>0s100;1>0j400"), 3);
        due("loan(0, 3)", x.loan(0, 3), 250);
        due("pass(1)", x.pass(1), 0);
        dueRows("split(0, 100, ..)", Markets.split(x, 0, 100), 0, 30, 1, 70, 70, 0);
        // 29 by 500, 100 and 400: 14, 2 and 11, and two coins more; 70 by 500 and 100: 58 and 11, and one coin more.
        due("pay(0, 100)", x.pay(0, 100), 930);
        dueRows("note(.., 5)", Markets.notes(x, 5), 15, 3, 11);
        dueRows("note(.., 3)", Markets.notes(x, 3), 441, 89, 400);
        dueRows("investor(.., 0)", Markets.investors(x, 0), 4574, 4525);
        due("pass(1)", x.pass(1), 1);
        // 27 of interest are due; 26 by 441, 89 and 400: 12, 2 and 11, and one coin more.
        due("pay(0, 27)", x.pay(0, 27), 930);
        due("cure(0, 10)", x.cure(0, 10), 93);
        due("switchServicer(0, 3)", x.switchServicer(0, 3), 0);
        due("pass(1)", x.pass(1), 0);
        due("loan(0, 7)", x.loan(0, 7), 3);
        due("sellNote(1, 0, 80)", x.sellNote(1, 0, 80), 89);
        dueRows("investor(.., 0)", Markets.investors(x, 0), 4507, 4618);
        due("toRepay(0) of 957", x.toRepay(0), 996);
        due("keep()", x.keep(), 3);
        due("pass(4)", x.pass(4), 1);
        // The seniors lack 24 and 6 of 441 and 89; the pool has 2 coins.
        due("sell(0, 500)", x.sell(0, 500), 428);
        dueRows("note(.., 6)", Markets.notes(x, 6), 22, 6, 400);
        dueRows("investor(0, ..)", Markets.investor(x, 0), 5009, 0, 0, 0, 28, 28);
        dueRows("investor(1, ..)", Markets.investor(x, 1), 4618, 0, 0, 0, 27, 400);
        due("count(9)", x.count(9), 0);
        due("undo()", x.undo(), 3);
        due("toRepay(0) of 1065", x.toRepay(0), 1109);
        due("pay(0, 1109)", x.pay(0, 1109), 0);
        due("servicer(3, 1)", x.servicer(3, 1), 44);
        due("restore()", x.restore(), 3);
        dueRows("loan(0, ..)", Markets.loan(x, 0), 1, 1000, 930, 93, 27, 93, 0, 3, NONE, 0, 3, 530, 400);
    }

    private static PeerNotes after511Calls() {
        PeerNotes x = new PeerNotes();
        due("addInvestor(0)", x.addInvestor(0), 0);
        for (int coins = 1; coins <= 510; coins++) {
            due("deposit(0, 1)", x.deposit(0, 1), coins);
        }
        return x;
    }

    @Says(in = "What it is", value = "An object is used for at most 512 calls after it has been made; what "
        + "later calls answer is free.")
    static void theLastCall() {
        due("investor(0, 0)", after511Calls().investor(0, 0), 510);
        due("deposit(0, 1)", after511Calls().deposit(0, 1), 511);
        due("undo()", after511Calls().undo(), 3);
        due("count(16)", after511Calls().count(16), 4);
        due("pass(24)", after511Calls().pass(24), 0);
    }

    // ---- Terms

    /** All coins that came in are somewhere: in a cash, in the pool, with a servicer, or with the borrowers. */
    private static void dueInAll(PeerNotes x, String when, int coins) {
        int all = x.count(9);
        for (int cash : Markets.investors(x, 0)) {
            all += cash;
        }
        for (int i = 0; i < 4; i++) {
            all += x.servicer(i, 1);
        }
        int notes = x.count(8);
        for (int i = 0; i < notes; i++) {
            all += x.loan(x.note(i, 1), 0) == 4 ? 0 : x.note(i, 4);
        }
        due("all coins after " + when, all, coins);
    }

    @Says(in = "Terms", value = "All amounts are whole coins.")
    static void noCoinIsMadeOrLost() {
        PeerNotes x = Markets.withInvestors(1000, 777, 501);
        x.openLoan(1001, 37, 7);
        x.openLoan(333, 50, 5);
        x.openLoan(500, 10, 5);
        int[][] fundings = {{0, 0, 0, 335}, {1, 0, 0, 333}, {2, 0, 1, 166}, {0, 0, 1, 167}, {1, 1, 0, 111}, {2, 1, 1, 111},
            {0, 1, 0, 111}, {0, 2, 1, 99}};
        for (int[] row : fundings) {
            x.fund(row[0], row[1], row[2] == 1, row[3]);
        }
        int coins = 1000 + 777 + 501;
        dueInAll(x, "the fundings", coins);
        due("giveUp(2)", x.giveUp(2), 99);
        dueInAll(x, "giveUp(2)", coins);
        x.pass(1);
        int[] payments = {7, 29, 1, 77, 201, 333};
        for (int payment : payments) {
            x.pay(0, payment);
            coins += payment;
            dueInAll(x, "a payment of " + payment, coins);
        }
        x.sellNote(0, 2, 13);
        dueInAll(x, "a sale of a note", coins);
        x.pass(3);
        x.pay(1, 13);
        // The pool has 1 coin; the seniors have 222.
        due("sell(1, 200)", x.sell(1, 200), 132);
        coins += 13 + 200;
        dueInAll(x, "a sale for too little", coins);
        x.pass(2);
        due("sell(0, 999)", x.sell(0, 999), 0);
        coins += 999;
        dueInAll(x, "a sale for too much", coins);
    }

    // ---- WHO

    @Says(in = "WHO", value = "There are at most 8 investors, numbered from 0")
    static void investorsFromNumber0To7() {
        PeerNotes x = new PeerNotes();
        for (int i = 0; i < 8; i++) {
            due("investor(i, 0) before it is there", x.investor(i, 0), UNKNOWN);
            due("addInvestor", x.addInvestor(10 + i), i);
            due("investor(i, 0)", x.investor(i, 0), 10 + i);
        }
        due("addInvestor, the ninth", x.addInvestor(0), FULL);
        due("investor(8, 0)", x.investor(8, 0), UNKNOWN);
        due("count(1)", x.count(1), 8);
    }

    @Says(in = "WHO", value = "each with cash (from 0 to 2147483647)")
    static void cashFrom0ToTheMost() {
        PeerNotes x = Markets.withInvestors(100, MOST);
        x.openLoan(100, 0, 1);
        due("fund with all cash", x.fund(0, 0, false, 100), 0);
        due("investor(0, 0)", x.investor(0, 0), 0);
        due("investor(1, 0)", x.investor(1, 0), MOST);
        due("deposit(1, 1)", x.deposit(1, 1), FULL);
        due("sellNote(0, 1, 0) to one who has the most", x.sellNote(0, 1, 0), 100);
        due("pay(0, 1) to one who has the most", x.pay(0, 1), FULL);
        due("investor(1, 0)", x.investor(1, 0), MOST);
    }

    @Says(in = "WHO",
        value = "There are 4 servicers, numbered from 0, with the fees 5, 10, 20 and 40 (thousandths of each payment)")
    static void servicersFromNumber0To3() {
        PeerNotes x = new PeerNotes();
        due("servicer(-1, 0)", x.servicer(-1, 0), UNKNOWN);
        due("servicer(0, 0)", x.servicer(0, 0), 5);
        due("servicer(1, 0)", x.servicer(1, 0), 10);
        due("servicer(2, 0)", x.servicer(2, 0), 20);
        due("servicer(3, 0)", x.servicer(3, 0), 40);
        due("servicer(4, 0)", x.servicer(4, 0), UNKNOWN);
    }

    @Says(in = "WHO", value = "There is a pool with coins (0 at first)")
    static void poolIsEmptyAtFirst() {
        due("count(9)", new PeerNotes().count(9), 0);
        PeerNotes x = Markets.running(1000, 50, 10);
        x.pass(1);
        due("count(9) before a payment", x.count(9), 0);
    }

    @Says(in = "WHO", value = ", and a share of interest for it (0 to 50 percent, at first 5)")
    static void poolShareFrom0To50() {
        int[][] sharesAndPool = {{0, 0}, {1, 0}, {2, 1}, {49, 24}, {50, 25}};
        for (int[] row : sharesAndPool) {
            PeerNotes x = Markets.running(1000, 50, 10);
            due("count(10)", x.count(10), 5);
            due("setPoolShare", x.setPoolShare(row[0]), 5);
            x.pass(1);
            due("pay(0, 50)", x.pay(0, 50), 1000);
            due("count(9) by " + row[0] + " percent", x.count(9), row[1]);
            due("note(0, 5) by " + row[0] + " percent", x.note(0, 5), 50 - row[1]);
        }
        PeerNotes first = Markets.running(1000, 50, 10);
        first.pass(1);
        first.pay(0, 50);
        due("count(9) by the first share", first.count(9), 2);
    }

    // ---- LOANS AND NOTES

    @Says(in = "LOANS AND NOTES", value = "There are at most 10 loans, numbered from 0")
    static void loansFromNumber0To9() {
        PeerNotes x = new PeerNotes();
        for (int i = 0; i < 10; i++) {
            due("loan(i, 0) before it is there", x.loan(i, 0), UNKNOWN);
            due("openLoan", x.openLoan(100 + i, 0, 1), i);
            due("loan(i, 1)", x.loan(i, 1), 100 + i);
        }
        due("openLoan, the eleventh", x.openLoan(100, 0, 1), FULL);
        due("loan(10, 0)", x.loan(10, 0), UNKNOWN);
    }

    @Says(in = "LOANS AND NOTES", value = "There are at most 10 loans, numbered from 0")
    static void loansThatEndedTakeRoom() {
        PeerNotes x = new PeerNotes();
        for (int i = 0; i < 10; i++) {
            x.openLoan(100, 0, 1);
            due("giveUp", x.giveUp(i), 0);
        }
        due("openLoan, the eleventh", x.openLoan(100, 0, 1), FULL);
        due("count(2)", x.count(2), 10);
    }

    @Says(in = "LOANS AND NOTES", value = "A loan has an amount (100 to 99999)")
    static void theLeastAndTheGreatestAmount() {
        PeerNotes x = Markets.running(100, 50, 1);
        x.pass(1);
        dueRows("loan(0, ..) of 100", Markets.loan(x, 0), 1, 100, 100, 100, 5, 100, 0, 0, NONE, 0, 1, 100, 0);
        PeerNotes y = Markets.running(99999, 50, 1);
        y.pass(1);
        dueRows("loan(0, ..) of 99999", Markets.loan(y, 0),
            1, 99999, 99999, 99999, 4999, 99999, 0, 0, NONE, 0, 1, 99999, 0);
    }

    @Says(in = "LOANS AND NOTES", value = "a rate (0 to 50 thousandths a month)")
    static void theLeastAndTheGreatestRate() {
        int[][] ratesAndInterest = {{0, 0}, {1, 1}, {50, 50}};
        for (int[] row : ratesAndInterest) {
            PeerNotes x = Markets.running(1000, row[0], 10);
            x.pass(1);
            due("loan(0, 4) by a rate of " + row[0], x.loan(0, 4), row[1]);
        }
        PeerNotes y = Markets.running(99999, 0, 36);
        y.pass(24);
        due("loan(0, 4) by a rate of 0 after 24 months", y.loan(0, 4), 0);
    }

    @Says(in = "LOANS AND NOTES", value = "a number of months (1 to 36)")
    static void theLeastAndTheGreatestNumberOfMonths() {
        due("loan(0, 3) for 1 month", Markets.running(99999, 0, 1).loan(0, 3), 99999);
        due("loan(0, 3) for 36 months", Markets.running(99999, 0, 36).loan(0, 3), 2778);
        due("loan(0, 3) of the least amount for 36 months", Markets.running(100, 0, 36).loan(0, 3), 3);
    }

    @Says(in = "LOANS AND NOTES", value = "and a servicer (0 at first)")
    static void theFirstServicer() {
        PeerNotes x = Markets.withInvestors(1000);
        x.openLoan(100, 0, 1);
        due("loan(0, 7) in funding", x.loan(0, 7), 0);
        due("loan(0, 8) in funding", x.loan(0, 8), NONE);
        x.fund(0, 0, false, 100);
        due("loan(0, 7) when it runs", x.loan(0, 7), 0);
        due("loan(0, 8) when it runs", x.loan(0, 8), NONE);
    }

    @Says(in = "LOANS AND NOTES",
        value = "It is in one of these states: 0 in funding (at first), 1 running, 2 repaid, 3 sold, 4 given up.")
    static void eachState() {
        PeerNotes first = new PeerNotes();
        first.openLoan(100, 0, 1);
        due("loan(0, 0) at first", first.loan(0, 0), 0);
        PeerNotes x = Markets.ofEachState();
        for (int state = 0; state <= 4; state++) {
            due("loan(" + state + ", 0)", x.loan(state, 0), state);
        }
    }

    @Says(in = "LOANS AND NOTES", value = "There are at most 60 notes, numbered from 0.")
    static void notesFromNumber0To59() {
        PeerNotes x = Markets.withInvestors(1000);
        x.openLoan(1000, 0, 1);
        for (int i = 0; i < 60; i++) {
            due("note(i, 4) before it is there", x.note(i, 4), UNKNOWN);
            due("fund", x.fund(0, 0, false, 1), 999 - i);
            due("note(i, 4)", x.note(i, 4), 1);
        }
        due("fund, the 61st", x.fund(0, 0, false, 1), FULL);
        due("note(60, 4)", x.note(60, 4), UNKNOWN);
        due("count(8)", x.count(8), 60);
    }

    @Says(in = "LOANS AND NOTES", value = "There are at most 60 notes, numbered from 0.")
    static void theLastNoteMayMakeALoanRun() {
        PeerNotes x = Markets.withInvestors(1000);
        x.openLoan(100, 0, 1);
        for (int i = 0; i < 59; i++) {
            x.fund(0, 0, false, 1);
        }
        due("fund, the 60th", x.fund(0, 0, true, 41), 0);
        due("loan(0, 0)", x.loan(0, 0), 1);
        due("loan(0, 10)", x.loan(0, 10), 60);
        due("pay(0, 100)", x.pay(0, 100), 0);
        due("investor(0, 0)", x.investor(0, 0), 1000);
    }

    /** 8 investors, 10 loans that run, with 6 notes of 100 coins each: note i is of investor i % 8, and junior if i is odd. */
    private static PeerNotes fullHouse() {
        PeerNotes x = Markets.withInvestors(1000, 1000, 1000, 1000, 1000, 1000, 1000, 1000);
        for (int i = 0; i < 10; i++) {
            x.openLoan(600, 10, 6);
        }
        for (int i = 0; i < 60; i++) {
            x.fund(i % 8, i / 6, i % 2 == 1, 100);
        }
        return x;
    }

    @Says(in = "LOANS AND NOTES", value = "There are at most 60 notes, numbered from 0.")
    static void theNotesOfAFullHouse() {
        PeerNotes x = fullHouse();
        due("count(4)", x.count(4), 10);
        due("count(11)", x.count(11), 6000);
        due("servicer(0, 2)", x.servicer(0, 2), 10);
        // The notes 3, 11, 19, .. of the loans 0, 1, 3, 4, 5, 7, 8, 9; the notes 7, 15, .. of the loans 1, 2, 3, 5, 6, 7, 9.
        dueRows("investor(3, ..)", Markets.investor(x, 3), 200, 800, 8, 955, 0, 0);
        dueRows("investor(7, ..)", Markets.investor(x, 7), 300, 700, 7, 750, 0, 0);
        dueRows("note(59, ..)", Markets.note(x, 59), 3, 9, 1, 100, 100, 0, 0);
        dueRows("loan(9, ..)", Markets.loan(x, 9), 1, 600, 600, 100, 0, 0, 0, 0, NONE, 0, 6, 300, 300);
        due("sellNote(59, 7, 30)", x.sellNote(59, 7, 30), 100);
        dueRows("investor(3, ..)", Markets.investor(x, 3), 230, 700, 7, 443, 0, 0);
        dueRows("investor(7, ..)", Markets.investor(x, 7), 270, 800, 8, 750, 0, 0);
    }

    @Says(in = "LOANS AND NOTES", value = "There are at most 60 notes, numbered from 0.")
    static void paymentsAndSalesInAFullHouse() {
        PeerNotes x = fullHouse();
        due("pass(1)", x.pass(1), 0);
        due("pass(3)", x.pass(3), 10);
        // 24 of interest, 1 of it for the pool: 3 for each note, and 5 coins more.
        due("pay(9, 24)", x.pay(9, 24), 600);
        int[] interest = {4, 4, 4, 4, 4, 3};
        for (int i = 0; i < 6; i++) {
            due("note(" + (54 + i) + ", 5)", x.note(54 + i, 5), interest[i]);
        }
        // 84, 83 and 83 for the seniors, and the coin of the pool for the first of them.
        due("sell(9, 250)", x.sell(9, 250), 349);
        int[] losses = {15, 100, 17, 100, 17, 100};
        for (int i = 0; i < 6; i++) {
            due("note(" + (54 + i) + ", 6)", x.note(54 + i, 6), losses[i]);
        }
        due("count(9)", x.count(9), 0);
        due("count(11)", x.count(11), 5400);
        due("count(12)", x.count(12), 9 * 24);
        due("count(13)", x.count(13), 349);
        due("count(14)", x.count(14), 9);
        dueRows("investor(.., 5)", Markets.investors(x, 5), 17, 100, 17, 100, 0, 0, 15, 100);
        due("keep()", x.keep(), 60);
        due("undo()", x.undo(), 3);
        due("count(6)", x.count(6), 0);
        due("restore()", x.restore(), 60);
        due("count(6)", x.count(6), 1);
    }

    @Says(in = "LOANS AND NOTES", value = "A note is of an investor, for a loan, of the class 0 (senior) or 1 (junior);"
        + " it has a principal, which is at first the coins with which it was funded.")
    static void aNewNote() {
        PeerNotes x = Markets.withInvestors(5, 99999);
        x.openLoan(100, 50, 1);
        x.openLoan(99999, 50, 1);
        x.fund(0, 0, false, 1);
        x.fund(1, 1, true, 99999);
        dueRows("note(0, ..)", Markets.note(x, 0), 0, 0, 0, 1, 1, 0, 0);
        dueRows("note(1, ..)", Markets.note(x, 1), 1, 1, 1, 99999, 99999, 0, 0);
    }

    @Says(in = "LOANS AND NOTES",
        value = "As soon as the notes of a loan have its amount together, it runs: its principal is the amount,")
    static void itRunsWithTheLastCoin() {
        PeerNotes x = Markets.withInvestors(1000);
        x.openLoan(100, 0, 1);
        due("fund all but a coin", x.fund(0, 0, false, 99), 1);
        due("loan(0, 0)", x.loan(0, 0), 0);
        due("loan(0, 2)", x.loan(0, 2), 0);
        due("loan(0, 3)", x.loan(0, 3), NONE);
        due("fund the last coin", x.fund(0, 0, true, 1), 0);
        due("loan(0, 0)", x.loan(0, 0), 1);
        due("loan(0, 2)", x.loan(0, 2), 100);
        due("loan(0, 3)", x.loan(0, 3), 100);
    }

    @Says(in = "LOANS AND NOTES", value = "As soon as the notes of a loan have its amount together, it runs")
    static void itRunsByOneNote() {
        PeerNotes x = Markets.withInvestors(100);
        x.openLoan(100, 0, 1);
        due("fund(0, 0, true, 100)", x.fund(0, 0, true, 100), 0);
        due("loan(0, 0)", x.loan(0, 0), 1);
    }

    @Says(in = "LOANS AND NOTES", value = "its instalment is amount / months, rounded up")
    static void theInstalmentIsRoundedUp() {
        int[][] rows = {{100, 1, 100}, {100, 3, 34}, {100, 7, 15}, {100, 10, 10}, {100, 33, 4}, {100, 34, 3},
            {108, 36, 3}, {109, 36, 4}, {143, 36, 4}, {144, 36, 4}, {145, 36, 5}, {99999, 2, 50000}, {99999, 3, 33333}};
        for (int[] row : rows) {
            due("loan(0, 3) of " + row[0] + " for " + row[1], Markets.running(row[0], 0, row[1]).loan(0, 3), row[2]);
        }
    }

    @Says(in = "LOANS AND NOTES", value = "interest due and principal due are 0, and it is 0 months in arrears.")
    static void nothingIsDueWhenItBeginsToRun() {
        PeerNotes x = Markets.withInvestors(1000);
        x.openLoan(500, 50, 5);
        x.fund(0, 0, false, 499);
        x.pass(24);
        x.fund(0, 0, false, 1);
        dueRows("loan(0, ..)", Markets.loan(x, 0), 1, 500, 500, 100, 0, 0, 0, 0, NONE, 0, 2, 500, 0);
        due("pass(1): the first month", x.pass(1), 0);
    }

    // ---- A MONTH

    @Says(in = "A MONTH", value = "When a month passes, for each loan, by number, that runs:")
    static void onlyLoansThatRunHaveMonths() {
        PeerNotes x = Markets.ofEachState();
        int[][] before = new int[5][];
        for (int i = 0; i < 5; i++) {
            before[i] = Markets.loan(x, i);
        }
        x.pass(1);
        for (int i = 0; i < 5; i++) {
            if (i != 1) {
                dueRows("loan(" + i + ", ..)", Markets.loan(x, i), before[i]);
            }
        }
        dueRows("loan(1, ..)", Markets.loan(x, 1), 1, 1000, 1000, 100, 50, 500, 4, 0, NONE, 0, 2, 600, 400);
    }

    @Says(in = "A MONTH", value = "When a month passes, for each loan, by number, that runs:")
    static void allTenLoansHaveTheirMonth() {
        PeerNotes x = Markets.withInvestors(10000);
        for (int i = 0; i < 10; i++) {
            x.openLoan(100 + i * 10, 10, 1);
            x.fund(0, i, false, 100 + i * 10);
        }
        due("pass(1)", x.pass(1), 0);
        due("pass(1)", x.pass(1), 10);
        for (int i = 0; i < 10; i++) {
            due("loan(" + i + ", 4)", x.loan(i, 4), 2);
            due("loan(" + i + ", 5)", x.loan(i, 5), 100 + i * 10);
            due("loan(" + i + ", 6)", x.loan(i, 6), 1);
        }
    }

    @Says(in = "A MONTH", value = "If a switch to another servicer was ordered, this is its servicer from now on.")
    static void theSwitchIsMadeWithTheMonth() {
        PeerNotes x = Markets.running(1000, 0, 10);
        x.switchServicer(0, 3);
        due("loan(0, 7) before the month", x.loan(0, 7), 0);
        due("split(0, 200, 0) before the month", x.split(0, 200, 0), 1);
        x.pass(1);
        due("loan(0, 7) after the month", x.loan(0, 7), 3);
        due("loan(0, 8) after the month", x.loan(0, 8), NONE);
        due("split(0, 200, 0) after the month", x.split(0, 200, 0), 8);
        x.pass(1);
        due("loan(0, 7) after one more", x.loan(0, 7), 3);
    }

    @Says(in = "A MONTH", value = "If a switch to another servicer was ordered, this is its servicer from now on.")
    static void theSwitchIsMadeWithTheFirstOfSomeMonths() {
        PeerNotes x = Markets.running(1000, 0, 10);
        x.switchServicer(0, 2);
        x.pass(24);
        due("loan(0, 7)", x.loan(0, 7), 2);
        due("loan(0, 8)", x.loan(0, 8), NONE);
        x.switchServicer(0, 0);
        x.pass(1);
        due("loan(0, 7): back to servicer 0", x.loan(0, 7), 0);
    }

    @Says(in = "A MONTH", value = "If interest or principal is due, it is in arrears for 1 month more")
    static void whatTheMonthMakesDueCountsWithTheNextOne() {
        PeerNotes x = Markets.running(1000, 10, 10);
        for (int arrears = 0; arrears < 4; arrears++) {
            x.pass(1);
            due("loan(0, 6)", x.loan(0, 6), arrears);
        }
    }

    @Says(in = "A MONTH", value = "If interest or principal is due, it is in arrears for 1 month more")
    static void oneCoinOfPrincipalMakesArrears() {
        PeerNotes x = Markets.running(100, 0, 10);
        x.pass(1);
        x.pay(0, 9);
        due("loan(0, 4)", x.loan(0, 4), 0);
        due("loan(0, 5)", x.loan(0, 5), 1);
        due("pass(1)", x.pass(1), 1);
        due("loan(0, 6)", x.loan(0, 6), 1);
    }

    @Says(in = "A MONTH", value = "If interest or principal is due, it is in arrears for 1 month more")
    static void oneCoinOfInterestMakesArrears() {
        PeerNotes x = Markets.running(200, 10, 10);
        x.pass(1);
        x.pay(0, 1);
        due("loan(0, 4)", x.loan(0, 4), 1);
        x.pass(1);
        due("loan(0, 6)", x.loan(0, 6), 1);
    }

    @Says(in = "A MONTH", value = "If interest or principal is due, it is in arrears for 1 month more")
    static void inArrearsFor239Months() {
        PeerNotes x = Markets.running(1000, 0, 10);
        for (int i = 0; i < 10; i++) {
            due("pass(24)", x.pass(24), 1);
        }
        due("loan(0, 6)", x.loan(0, 6), 239);
        due("cure(0, 10)", x.cure(0, 10), 100);
        x.undo();
        due("sell(0, 400)", x.sell(0, 400), 600);
    }

    @Says(in = "A MONTH", value = "otherwise for 0 months.")
    static void nothingDueMakesNoArrears() {
        PeerNotes x = Markets.running(1000, 10, 10);
        x.pass(3);
        due("loan(0, 6)", x.loan(0, 6), 2);
        // 30 of interest, 300 of principal; the fee of 331 is 1.
        due("pay(0, 331)", x.pay(0, 331), 700);
        x.pass(1);
        due("loan(0, 6)", x.loan(0, 6), 0);
        x.pass(1);
        due("loan(0, 6): from the beginning", x.loan(0, 6), 1);
    }

    @Says(in = "A MONTH", value = "The interest due becomes greater by principal * rate / 1000 (rounded down)")
    static void interestIsRoundedDown() {
        int[][] rows = {{100, 9, 0}, {100, 10, 1}, {100, 19, 1}, {100, 20, 2}, {999, 1, 0}, {1000, 1, 1}, {1999, 1, 1},
            {2000, 1, 2}, {99999, 50, 4999}, {101, 49, 4}};
        for (int[] row : rows) {
            PeerNotes x = Markets.running(row[0], row[1], 10);
            x.pass(1);
            due("loan(0, 4) of " + row[0] + " at " + row[1], x.loan(0, 4), row[2]);
        }
    }

    @Says(in = "A MONTH", value = "The interest due becomes greater by principal * rate / 1000 (rounded down)")
    static void interestIsOfThePrincipalAlone() {
        PeerNotes x = Markets.running(1999, 1, 36);
        x.pass(3);
        due("loan(0, 4): rounded down month by month", x.loan(0, 4), 3);
        // 3 of interest, 999 of principal are paid; the fee of 1007 is 5.
        due("pay(0, 1007)", x.pay(0, 1007), 1000);
        x.pass(1);
        due("loan(0, 4) of a principal of 1000", x.loan(0, 4), 1);
        x.pay(0, 2);
        x.pass(1);
        due("loan(0, 4) of a principal of 999", x.loan(0, 4), 0);
    }

    @Says(in = "A MONTH", value = "the principal due becomes greater by the instalment, but is at most the principal.")
    static void principalDueIsAtMostThePrincipal() {
        PeerNotes x = Markets.running(100, 0, 3);
        int[] wanted = {34, 68, 100, 100};
        for (int want : wanted) {
            x.pass(1);
            due("loan(0, 5)", x.loan(0, 5), want);
        }
    }

    @Says(in = "A MONTH", value = "the principal due becomes greater by the instalment, but is at most the principal.")
    static void principalDueIsAtMostWhatIsLeft() {
        int[][] paidAndDue = {{899, 100}, {900, 100}, {901, 99}, {999, 1}};
        for (int[] row : paidAndDue) {
            PeerNotes x = Markets.running(1000, 0, 10);
            // The fee is 4 or 5: the least coins that leave so much.
            int coins = row[0] + 4;
            if (x.split(0, coins, 3) < row[0]) {
                coins++;
            }
            due("pay", x.pay(0, coins), 1000 - row[0]);
            x.pass(1);
            due("loan(0, 5) after " + row[0] + " were paid", x.loan(0, 5), row[1]);
        }
    }

    // ---- SHARING

    @Says(in = "SHARING", value = "When coins are shared among notes by some weights, each note gets coins * weight / all "
        + "weights together, rounded down")
    static void sharesWithoutARest() {
        PeerNotes x = Markets.noteByNote(0, 1, 30, 70);
        due("pay(0, 10)", x.pay(0, 10), 90);
        dueRows("note(.., 3)", Markets.notes(x, 3), 27, 63);
        PeerNotes y = Markets.noteByNote(0, 1, 50, 50);
        due("pay(0, 10)", y.pay(0, 10), 90);
        dueRows("note(.., 3)", Markets.notes(y, 3), 45, 45);
    }

    @Says(in = "SHARING", value = "each note gets coins * weight / all weights together, rounded down")
    static void allCoinsOfAllWeights() {
        PeerNotes x = Markets.noteByNote(0, 1, 1, 33, 66);
        due("pay(0, 100)", x.pay(0, 100), 0);
        dueRows("note(.., 3)", Markets.notes(x, 3), 0, 0, 0);
        dueRows("investor(.., 0)", Markets.investors(x, 0), 1, 33, 66);
    }

    @Says(in = "SHARING", value = "each note gets coins * weight / all weights together, rounded down")
    static void oneNoteGetsAll() {
        PeerNotes x = Markets.noteByNote(0, 1, 100);
        due("pay(0, 1)", x.pay(0, 1), 99);
        due("pay(0, 98)", x.pay(0, 98), 1);
        due("pay(0, 1)", x.pay(0, 1), 0);
        due("investor(0, 0)", x.investor(0, 0), 100);
    }

    @Says(in = "SHARING", value = "each note gets coins * weight / all weights together, rounded down")
    static void productsThatAreTooGreatForAnInt() {
        PeerNotes x = Markets.withInvestors(MOST - 1000000);
        x.openLoan(99999, 50, 36);
        x.setPoolShare(0);
        x.fund(0, 0, false, 39999);
        x.fund(0, 0, true, 60000);
        for (int i = 0; i < 10; i++) {
            x.pass(24);
        }
        // The fee is 999: 199000 by 39999 and 60000, 79598.8 and 119401.1.
        due("pay(0, 199999)", x.pay(0, 199999), 99999);
        dueRows("note(.., 5)", Markets.notes(x, 5), 79599, 119401);
    }

    @Says(in = "SHARING", value = "the coins that are left then are given one by one to the notes whose weight is not 0, "
        + "by their numbers.")
    static void oneCoinIsLeft() {
        PeerNotes x = Markets.noteByNote(0, 1, 34, 33, 33);
        // 3.4, 3.3 and 3.3.
        due("pay(0, 10)", x.pay(0, 10), 90);
        dueRows("note(.., 3)", Markets.notes(x, 3), 30, 30, 30);
        PeerNotes y = Markets.noteByNote(0, 1, 33, 33, 34);
        due("pay(0, 10)", y.pay(0, 10), 90);
        dueRows("note(.., 3): by number, not by weight", Markets.notes(y, 3), 29, 30, 31);
    }

    @Says(in = "SHARING", value = "the coins that are left then are given one by one to the notes whose weight is not 0, "
        + "by their numbers.")
    static void allButOneGetACoinThatIsLeft() {
        PeerNotes x = Markets.noteByNote(0, 1, 34, 33, 33);
        // 1.7, 1.6 and 1.6.
        due("pay(0, 5)", x.pay(0, 5), 95);
        dueRows("note(.., 3)", Markets.notes(x, 3), 32, 31, 32);
    }

    @Says(in = "SHARING", value = "the coins that are left then are given one by one to the notes whose weight is not 0, "
        + "by their numbers.")
    static void fewerCoinsThanNotes() {
        PeerNotes x = Markets.noteByNote(0, 1, 34, 33, 33);
        due("pay(0, 1)", x.pay(0, 1), 99);
        dueRows("note(.., 3)", Markets.notes(x, 3), 33, 33, 33);
        due("pay(0, 2)", x.pay(0, 2), 97);
        dueRows("note(.., 3)", Markets.notes(x, 3), 32, 32, 33);
    }

    @Says(in = "SHARING", value = "the coins that are left then are given one by one to the notes whose weight is not 0, "
        + "by their numbers.")
    static void fiftyNineCoinsForSixtyNotes() {
        PeerNotes x = Markets.withInvestors(6000);
        x.openLoan(6000, 0, 1);
        for (int i = 0; i < 60; i++) {
            x.fund(0, 0, false, 100);
        }
        due("pay(0, 59)", x.pay(0, 59), 5941);
        for (int i = 0; i < 60; i++) {
            due("note(" + i + ", 3)", x.note(i, 3), i < 59 ? 99 : 100);
        }
    }

    @Says(in = "SHARING", value = "to the notes whose weight is not 0")
    static void noCoinForANoteWithoutPrincipal() {
        PeerNotes x = Markets.noteByNote(0, 1, 1, 1, 98);
        int[][] wanted = {{0, 1, 98}, {0, 0, 98}, {0, 0, 97}};
        for (int[] want : wanted) {
            x.pay(0, 1);
            dueRows("note(.., 3)", Markets.notes(x, 3), want);
        }
        dueRows("investor(.., 0)", Markets.investors(x, 0), 1, 1, 1);
    }

    @Says(in = "SHARING", value = "to the notes whose weight is not 0")
    static void noInterestForANoteWithoutPrincipal() {
        PeerNotes x = Markets.noteByNote(10, 1, 1, 200, -99);
        x.setPoolShare(0);
        due("pay(0, 1)", x.pay(0, 1), 299);
        x.pass(1);
        // 299 * 10 / 1000 is 2: 2 by 200 and 99, 1.3 and 0.6.
        due("pay(0, 2)", x.pay(0, 2), 299);
        dueRows("note(.., 5)", Markets.notes(x, 5), 0, 2, 0);
    }

    @Says(in = "SHARING", value = "by their numbers")
    static void byTheNumbersOfNotesNotByClass() {
        PeerNotes x = Markets.noteByNote(50, 1, -50, 50);
        x.setPoolShare(0);
        x.pass(1);
        // 5 of interest by 50 and 50: the coin that is left is for the junior note.
        due("pay(0, 5)", x.pay(0, 5), 100);
        dueRows("note(.., 5)", Markets.notes(x, 5), 3, 2);
    }

    @Says(in = "SHARING", value = "by their numbers")
    static void byTheNumbersOfNotesNotOfInvestors() {
        PeerNotes x = Markets.withInvestors(100, 100, 100);
        x.openLoan(100, 0, 1);
        x.openLoan(120, 0, 1);
        x.fund(2, 1, false, 40);
        x.fund(2, 0, false, 50);
        x.fund(1, 1, false, 40);
        x.fund(1, 0, false, 50);
        x.fund(0, 1, false, 40);
        due("pay(1, 1)", x.pay(1, 1), 119);
        dueRows("note(.., 3)", Markets.notes(x, 3), 39, 50, 40, 50, 40);
        due("pay(0, 1)", x.pay(0, 1), 99);
        dueRows("note(.., 3)", Markets.notes(x, 3), 39, 49, 40, 50, 40);
    }

    // ---- A PAYMENT

    @Says(in = "A PAYMENT", value = "The fee is coins * fee of its servicer / 1000, rounded down.")
    static void theFeeIsRoundedDown() {
        int[][] coinsAndFees = {{1, 0, 199, 0, 200, 1, 399, 1, 400, 2, 199999, 999},
            {1, 0, 99, 0, 100, 1, 199, 1, 200, 2, 199999, 1999},
            {1, 0, 49, 0, 50, 1, 99, 1, 100, 2, 199999, 3999},
            {1, 0, 24, 0, 25, 1, 49, 1, 50, 2, 199999, 7999}};
        for (int servicer = 0; servicer < 4; servicer++) {
            PeerNotes x = Markets.running(99999, 50, 36);
            x.switchServicer(0, servicer);
            x.pass(24);
            int[] row = coinsAndFees[servicer];
            for (int i = 0; i < row.length; i += 2) {
                due("split(0, " + row[i] + ", 0) of servicer " + servicer, x.split(0, row[i], 0), row[i + 1]);
            }
        }
    }

    @Says(in = "A PAYMENT",
        value = {"A payment of a loan that runs is split in this order:", "The rest is split on."})
    static void theRestIsWhatTheFeeLeaves() {
        PeerNotes x = Markets.runningWith(3, 1000, 50, 10);
        // 50 are due.
        dueRows("split(0, 24, ..)", Markets.split(x, 0, 24), 0, 24, 1, 0, 0, 0);
        dueRows("split(0, 25, ..)", Markets.split(x, 0, 25), 1, 24, 1, 0, 0, 0);
        dueRows("split(0, 52, ..)", Markets.split(x, 0, 52), 2, 50, 2, 0, 0, 0);
        dueRows("split(0, 53, ..)", Markets.split(x, 0, 53), 2, 50, 2, 1, 1, 0);
        due("pay(0, 53)", x.pay(0, 53), 999);
        due("servicer(3, 1)", x.servicer(3, 1), 2);
    }

    @Says(in = "A PAYMENT", value = "Interest, as far as it is due")
    static void interestAsFarAsItIsDue() {
        PeerNotes x = Markets.seniorAndJunior();
        dueRows("split(0, 1, ..): none is due", Markets.split(x, 0, 1), 0, 0, 0, 1, 1, 0);
        x.pass(1);
        dueRows("split(0, 1, ..)", Markets.split(x, 0, 1), 0, 1, 0, 0, 0, 0);
        dueRows("split(0, 49, ..)", Markets.split(x, 0, 49), 0, 49, 2, 0, 0, 0);
        dueRows("split(0, 50, ..)", Markets.split(x, 0, 50), 0, 50, 2, 0, 0, 0);
        dueRows("split(0, 51, ..)", Markets.split(x, 0, 51), 0, 50, 2, 1, 1, 0);
        due("pay(0, 49)", x.pay(0, 49), 1000);
        due("loan(0, 4)", x.loan(0, 4), 1);
        due("pay(0, 2)", x.pay(0, 2), 999);
        due("loan(0, 4)", x.loan(0, 4), 0);
    }

    @Says(in = "A PAYMENT", value = "of it, the share of the pool (rounded down) goes to the pool")
    static void theShareOfThePoolIsRoundedDown() {
        int[][] shareInterestPool = {{0, 199, 0}, {1, 99, 0}, {1, 100, 1}, {1, 199, 1}, {5, 19, 0}, {5, 20, 1}, {5, 39, 1},
            {5, 40, 2}, {50, 1, 0}, {50, 2, 1}, {50, 3, 1}, {49, 100, 49}, {33, 3, 0}, {33, 4, 1}};
        for (int[] row : shareInterestPool) {
            PeerNotes x = Markets.running(10000, 50, 10);
            x.setPoolShare(row[0]);
            x.pass(1);
            due("split(0, " + row[1] + ", 2) by " + row[0] + " percent", x.split(0, row[1], 2), row[2]);
            x.pay(0, row[1]);
            due("count(9)", x.count(9), row[2]);
            due("note(0, 5)", x.note(0, 5), row[1] - row[2]);
        }
    }

    @Says(in = "A PAYMENT", value = "the rest is shared among all notes of the loan by their principals, and paid to the "
        + "cash of their investors")
    static void interestIsForBothClasses() {
        PeerNotes x = Markets.seniorAndJunior();
        x.pass(1);
        // 48 by 600 and 400: 28.8 and 19.2.
        due("pay(0, 50)", x.pay(0, 50), 1000);
        dueRows("note(.., 5)", Markets.notes(x, 5), 29, 19);
        dueRows("note(.., 3)", Markets.notes(x, 3), 600, 400);
        dueRows("investor(.., 0)", Markets.investors(x, 0), 9429, 9619);
        dueRows("investor(.., 4)", Markets.investors(x, 4), 29, 19);
    }

    @Says(in = "A PAYMENT", value = "the rest is shared among all notes of the loan by their principals, and paid to the "
        + "cash of their investors")
    static void interestIsSharedByThePrincipalsBeforeThePayment() {
        PeerNotes x = Markets.seniorAndJunior();
        x.pass(1);
        // The fee is 5: 50 of interest, and 1000 of principal, so that all principals are 0 then.
        due("pay(0, 1055)", x.pay(0, 1055), 0);
        dueRows("note(.., 5)", Markets.notes(x, 5), 29, 19);
        dueRows("investor(.., 0)", Markets.investors(x, 0), 10029, 10019);
    }

    @Says(in = "A PAYMENT", value = "the rest is shared among all notes of the loan by their principals, and paid to the "
        + "cash of their investors")
    static void interestOfTwoNotesOfOneInvestor() {
        PeerNotes x = Markets.withInvestors(1000);
        x.openLoan(1000, 10, 10);
        x.setPoolShare(0);
        x.fund(0, 0, false, 500);
        x.fund(0, 0, true, 500);
        x.pass(1);
        due("pay(0, 9)", x.pay(0, 9), 1000);
        dueRows("note(.., 5)", Markets.notes(x, 5), 5, 4);
        dueRows("investor(0, ..)", Markets.investor(x, 0), 9, 1000, 2, 1, 9, 0);
    }

    @Says(in = "A PAYMENT", value = "What is left then is principal: first to the senior notes, as far as their principals "
        + "together go, then to the junior ones")
    static void principalGoesToSeniorsFirst() {
        PeerNotes x = Markets.seniorAndJunior();
        // The fees of 602, 603 and 604 coins are 3.
        dueRows("split(0, 602, ..)", Markets.split(x, 0, 602), 3, 0, 0, 599, 599, 0);
        dueRows("split(0, 603, ..)", Markets.split(x, 0, 603), 3, 0, 0, 600, 600, 0);
        dueRows("split(0, 604, ..)", Markets.split(x, 0, 604), 3, 0, 0, 601, 600, 1);
        due("pay(0, 604)", x.pay(0, 604), 399);
        dueRows("note(.., 3)", Markets.notes(x, 3), 0, 399);
        dueRows("split(0, 1, ..): the seniors have all", Markets.split(x, 0, 1), 0, 0, 0, 1, 0, 1);
    }

    @Says(in = "A PAYMENT", value = "What is left then is principal: first to the senior notes, as far as their principals "
        + "together go, then to the junior ones")
    static void principalOfALoanOfOneClass() {
        PeerNotes seniors = Markets.noteByNote(0, 1, 50, 50);
        dueRows("split(0, 100, ..) of seniors", Markets.split(seniors, 0, 100), 0, 0, 0, 100, 100, 0);
        PeerNotes juniors = Markets.noteByNote(0, 1, -50, -50);
        dueRows("split(0, 100, ..) of juniors", Markets.split(juniors, 0, 100), 0, 0, 0, 100, 0, 100);
        due("pay(0, 3)", juniors.pay(0, 3), 97);
        dueRows("note(.., 3)", Markets.notes(juniors, 3), 48, 49);
    }

    @Says(in = "A PAYMENT", value = "in each class it is shared by the principals of its notes, paid to the cash of their "
        + "investors, and their principals become less by it")
    static void principalIsSharedInEachClass() {
        PeerNotes x = Markets.noteByNote(0, 1, -30, 20, -50, 80);
        // 100 to the seniors, 7 to the juniors: 2.6 and 4.3; the coin that is left is for note 0.
        due("pay(0, 107)", x.pay(0, 107), 73);
        dueRows("note(.., 3)", Markets.notes(x, 3), 27, 0, 46, 0);
        dueRows("investor(.., 0)", Markets.investors(x, 0), 3, 20, 4, 80);
        dueRows("investor(.., 4): principal is no interest", Markets.investors(x, 4), 0, 0, 0, 0);
    }

    /** Note 0 of 100 gave the odd coins of 20 payments, so that it has 80: note 1 has 100 still. */
    private static PeerNotes unlikeWhatWasFunded(int... notes) {
        PeerNotes x = Markets.noteByNote(50, 1, notes);
        for (int i = 0; i < 20; i++) {
            x.pay(0, 1);
        }
        due("note(0, 3)", x.note(0, 3), 80);
        due("note(1, 3)", x.note(1, 3), 100);
        return x;
    }

    @Says(in = "A PAYMENT", value = "in each class it is shared by the principals of its notes")
    static void byThePrincipalsOfNowNotByWhatWasFunded() {
        PeerNotes seniors = unlikeWhatWasFunded(100, 100);
        due("pay(0, 90)", seniors.pay(0, 90), 90);
        dueRows("note(.., 3)", Markets.notes(seniors, 3), 40, 50);
        PeerNotes juniors = unlikeWhatWasFunded(-100, -100);
        due("pay(0, 90)", juniors.pay(0, 90), 90);
        dueRows("note(.., 3)", Markets.notes(juniors, 3), 40, 50);
        PeerNotes interest = unlikeWhatWasFunded(100, 100);
        interest.setPoolShare(0);
        interest.pass(1);
        due("pay(0, 9): of interest", interest.pay(0, 9), 180);
        dueRows("note(.., 5)", Markets.notes(interest, 5), 4, 5);
    }

    @Says(in = "A PAYMENT",
        value = "The principal of the loan and the principal due become less by it (the latter not below 0).")
    static void principalDueIsNotBelow0() {
        int[][] coinsPrincipalAndDue = {{99, 901, 1}, {100, 900, 0}, {101, 899, 0}, {199, 801, 0}};
        for (int[] row : coinsPrincipalAndDue) {
            PeerNotes x = Markets.running(1000, 0, 10);
            x.pass(1);
            due("pay(0, " + row[0] + ")", x.pay(0, row[0]), row[1]);
            due("loan(0, 2)", x.loan(0, 2), row[1]);
            due("loan(0, 5)", x.loan(0, 5), row[2]);
        }
        PeerNotes y = Markets.running(1000, 0, 10);
        due("pay(0, 50) ahead of all months", y.pay(0, 50), 950);
        due("loan(0, 5)", y.loan(0, 5), 0);
    }

    @Says(in = "A PAYMENT", value = "If neither interest nor principal is due then, it is 0 months in arrears.")
    static void arrearsEndWithTheLastCoinThatIsDue() {
        PeerNotes x = Markets.running(1000, 10, 10);
        x.pass(3);
        // 30 of interest and 300 of principal are due.
        x.pay(0, 30);
        due("loan(0, 6) when only principal is due", x.loan(0, 6), 2);
        due("pay(0, 300), the fee is 1", x.pay(0, 300), 701);
        due("loan(0, 6) when 1 coin is due", x.loan(0, 6), 2);
        due("count(14)", x.count(14), 1);
        x.pay(0, 1);
        due("loan(0, 6) when nothing is due", x.loan(0, 6), 0);
        due("count(14)", x.count(14), 0);
        due("loan(0, 0)", x.loan(0, 0), 1);
    }

    @Says(in = "A PAYMENT", value = "If its principal is 0 and no interest is due, it is repaid.")
    static void itIsRepaidWithTheLastCoin() {
        PeerNotes x = Markets.running(1000, 10, 10);
        x.pass(1);
        // 10 of interest; the fee of 1014 is 5, so 999 of principal are paid.
        due("pay(0, 1014)", x.pay(0, 1014), 1);
        due("loan(0, 0)", x.loan(0, 0), 1);
        due("pay(0, 1)", x.pay(0, 1), 0);
        dueRows("loan(0, ..)", Markets.loan(x, 0), 2, 1000, 0, 100, 0, 0, 0, 0, NONE, 0, 1, 0, 0);
    }

    @Says(in = "A PAYMENT", value = "If its principal is 0 and no interest is due, it is repaid.")
    static void itIsNotRepaidWhenNothingIsDue() {
        PeerNotes x = Markets.running(1000, 10, 10);
        x.pass(1);
        due("pay(0, 110)", x.pay(0, 110), 900);
        due("loan(0, 0)", x.loan(0, 0), 1);
    }

    // ---- SALE

    /**
     * Loan 0 of 1000 can be sold: note 0 senior, 200, note 1 senior, 400, note 2 junior, 300, note 3 junior, 100, of the
     * investors with their numbers. The pool has some coins, from the sale of loan 1 (note 4, of investor 4).
     */
    private static PeerNotes forSale(int pool) {
        PeerNotes x = Markets.noteByNote(50, 10, 200, 400, -300, -100);
        x.addInvestor(100);
        x.openLoan(100, 0, 1);
        x.fund(4, 1, false, 100);
        x.pass(4);
        x.sell(1, 100 + pool);
        due("count(9)", x.count(9), pool);
        return x;
    }

    private static void dueSale(int pool, int price, int losses, int poolThen, int... lossByNote) {
        PeerNotes x = forSale(pool);
        String sale = "sell(0, " + price + ") with a pool of " + pool;
        due(sale, x.sell(0, price), losses);
        due(sale + ", then count(9)", x.count(9), poolThen);
        int[] funded = {200, 400, 300, 100};
        for (int i = 0; i < funded.length; i++) {
            due(sale + ", then note(" + i + ", 6)", x.note(i, 6), lossByNote[i]);
            due(sale + ", then note(" + i + ", 3)", x.note(i, 3), 0);
            dueRows(sale + ", then investor(" + i + ", ..)", Markets.investor(x, i),
                funded[i] - lossByNote[i], 0, 0, 0, 0, lossByNote[i]);
        }
        dueRows(sale + ", then loan(0, ..)", Markets.loan(x, 0), 3, 1000, 0, 100, 0, 0, 0, 0, NONE, 0, 4, 0, 0);
        due(sale + ", then count(13)", x.count(13), losses);
    }

    @Says(in = "SALE", value = "When a loan is sold for a price, the price goes to the senior notes, as far as their "
        + "principals together go, then to the junior ones likewise, in each class shared by the principals")
    static void thePriceGoesToSeniorsFirst() {
        dueSale(0, 0, 1000, 0, 200, 400, 300, 100);
        dueSale(0, 1, 999, 0, 199, 400, 300, 100);
        dueSale(0, 599, 401, 0, 0, 1, 300, 100);
        dueSale(0, 600, 400, 0, 0, 0, 300, 100);
        dueSale(0, 601, 399, 0, 0, 0, 299, 100);
        // 10 by 300 and 100: 7.5 and 2.5.
        dueSale(0, 610, 390, 0, 0, 0, 292, 98);
        dueSale(0, 999, 1, 0, 0, 0, 0, 1);
        dueSale(0, 1000, 0, 0, 0, 0, 0, 0);
    }

    @Says(in = "SALE", value = "in each class shared by the principals")
    static void thePriceIsSharedByThePrincipalsOfNow() {
        PeerNotes seniors = unlikeWhatWasFunded(100, 100);
        seniors.pass(4);
        due("sell(0, 90)", seniors.sell(0, 90), 90);
        dueRows("note(.., 6)", Markets.notes(seniors, 6), 40, 50);
        PeerNotes juniors = unlikeWhatWasFunded(-100, -100);
        juniors.pass(4);
        due("sell(0, 90)", juniors.sell(0, 90), 90);
        dueRows("note(.., 6)", Markets.notes(juniors, 6), 40, 50);
    }

    @Says(in = "SALE", value = "what is left of the price goes to the pool.")
    static void whatIsLeftOfThePriceGoesToThePool() {
        dueSale(0, 1000, 0, 0, 0, 0, 0, 0);
        dueSale(0, 1001, 0, 1, 0, 0, 0, 0);
        dueSale(0, 99999, 0, 98999, 0, 0, 0, 0);
        dueSale(7, 1001, 0, 8, 0, 0, 0, 0);
    }

    @Says(in = "SALE", value = "Then what the senior notes lack of their principals together is taken from the pool, as "
        + "far as it goes, and shared among them by what each lacks.")
    static void thePoolMakesGoodAsFarAsItGoes() {
        // The seniors lack 30: by 570 coins, 190 and 380, they lack 10 and 20.
        dueSale(0, 570, 430, 0, 10, 20, 300, 100);
        dueSale(1, 570, 429, 0, 9, 20, 300, 100);
        dueSale(29, 570, 401, 0, 0, 1, 300, 100);
        dueSale(30, 570, 400, 0, 0, 0, 300, 100);
        dueSale(31, 570, 400, 1, 0, 0, 300, 100);
        dueSale(900, 0, 400, 300, 0, 0, 300, 100);
        dueSale(600, 0, 400, 0, 0, 0, 300, 100);
        dueSale(599, 0, 401, 0, 0, 1, 300, 100);
    }

    @Says(in = "SALE", value = "Then what the senior notes lack of their principals together is taken from the pool, as "
        + "far as it goes, and shared among them by what each lacks.")
    static void seniorsThatLackNothingGetNothing() {
        dueSale(50, 600, 400, 50, 0, 0, 300, 100);
        dueSale(50, 900, 100, 50, 0, 0, 75, 25);
        // One coin is lacking, and it is of note 1: the coin of the pool is for note 1.
        dueSale(1, 599, 400, 0, 0, 0, 300, 100);
    }

    @Says(in = "SALE", value = "shared among them by what each lacks")
    static void byWhatEachLacksNotByPrincipals() {
        PeerNotes x = Markets.noteByNote(0, 1, 1, 1, 1, -97);
        x.addInvestor(100);
        x.openLoan(100, 0, 1);
        x.fund(4, 1, true, 100);
        x.pass(4);
        due("sell(1, 101)", x.sell(1, 101), 0);
        // The coin of the price is for note 0, so that of the pool is for note 1.
        due("sell(0, 1)", x.sell(0, 1), 98);
        dueRows("note(.., 6)", Markets.notes(x, 6), 0, 0, 1, 97, 0);
    }

    @Says(in = "SALE", value = "Then what the senior notes lack of their principals together is taken from the pool, as "
        + "far as it goes, and shared among them by what each lacks.")
    static void juniorsGetNothingOfThePool() {
        PeerNotes x = Markets.noteByNote(0, 1, -60, -40);
        x.addInvestor(100);
        x.openLoan(100, 0, 1);
        x.fund(2, 1, false, 100);
        x.pass(4);
        x.sell(1, 200);
        due("sell(0, 10)", x.sell(0, 10), 90);
        dueRows("note(.., 6)", Markets.notes(x, 6), 54, 36, 0);
        due("count(9)", x.count(9), 100);
    }

    @Says(in = "SALE", value = "All this is paid to the cash of their investors.")
    static void theSaleIsPaidToTheInvestorsOfToday() {
        PeerNotes x = forSale(30);
        due("sellNote(1, 0, 0)", x.sellNote(1, 0, 0), 400);
        due("sell(0, 570)", x.sell(0, 570), 400);
        dueRows("investor(.., 0)", Markets.investors(x, 0), 600, 0, 0, 0, 100);
        dueRows("investor(.., 4): it is no interest", Markets.investors(x, 4), 0, 0, 0, 0, 0);
    }

    @Says(in = "SALE", value = "What notes lack still is their loss; their principals and that of the loan are 0 then, and "
        + "nothing is due.")
    static void lossesAreOfTheInvestorsOfToday() {
        PeerNotes x = forSale(0);
        due("loan(0, 4)", x.loan(0, 4), 200);
        due("loan(0, 5)", x.loan(0, 5), 400);
        x.sellNote(2, 3, 0);
        due("sell(0, 700)", x.sell(0, 700), 300);
        dueRows("note(.., 6)", Markets.notes(x, 6), 0, 0, 225, 75, 0);
        dueRows("investor(.., 5)", Markets.investors(x, 5), 0, 0, 0, 300, 0);
        due("loan(0, 4)", x.loan(0, 4), 0);
        due("loan(0, 5)", x.loan(0, 5), 0);
        due("count(11)", x.count(11), 0);
        due("count(12)", x.count(12), 0);
    }

    @Says(in = "SALE", value = "What notes lack still is their loss; their principals and that of the loan are 0 then, and "
        + "nothing is due.")
    static void whatWasRepaidIsNoLoss() {
        PeerNotes x = Markets.seniorAndJunior();
        x.pass(4);
        // 200 of interest; the fee of 703 is 3: 500 of principal for the senior note.
        due("pay(0, 703)", x.pay(0, 703), 500);
        due("pass(4)", x.pass(4), 1);
        // The pool has 10: the senior note gets 60 and 10 of its 100.
        due("sell(0, 60)", x.sell(0, 60), 430);
        dueRows("note(.., 6)", Markets.notes(x, 6), 30, 400);
        dueRows("note(.., 4)", Markets.notes(x, 4), 600, 400);
    }

    @Says(in = "SALE", value = "When a loan is repaid, sold or given up, it is 0 months in arrears, and a switch that was "
        + "ordered for it is gone.")
    static void noArrearsAndNoSwitchWhenRepaid() {
        PeerNotes x = Markets.seniorAndJunior();
        x.pass(3);
        x.switchServicer(0, 3);
        due("loan(0, 6)", x.loan(0, 6), 2);
        due("pay", x.pay(0, x.toRepay(0)), 0);
        dueRows("loan(0, ..)", Markets.loan(x, 0), 2, 1000, 0, 100, 0, 0, 0, 0, NONE, 0, 2, 0, 0);
        due("count(15)", x.count(15), 0);
        due("pass(1)", x.pass(1), 0);
        due("loan(0, 7): the switch is not made later", x.loan(0, 7), 0);
    }

    @Says(in = "SALE", value = "When a loan is repaid, sold or given up, it is 0 months in arrears, and a switch that was "
        + "ordered for it is gone.")
    static void noArrearsAndNoSwitchWhenSold() {
        PeerNotes x = Markets.seniorAndJunior();
        x.pass(4);
        x.switchServicer(0, 3);
        due("count(15)", x.count(15), 1);
        due("sell(0, 0)", x.sell(0, 0), 1000);
        due("loan(0, 6)", x.loan(0, 6), 0);
        due("loan(0, 8)", x.loan(0, 8), NONE);
        due("count(15)", x.count(15), 0);
        due("count(14)", x.count(14), 0);
        due("pass(1)", x.pass(1), 0);
        due("loan(0, 7): the switch is not made later", x.loan(0, 7), 0);
    }

    @Says(in = "SALE", value = "When a loan is repaid, sold or given up, it is 0 months in arrears, and a switch that was "
        + "ordered for it is gone.")
    static void noArrearsAndNoSwitchWhenGivenUp() {
        PeerNotes x = Markets.withInvestors(1000);
        x.openLoan(500, 50, 5);
        x.fund(0, 0, false, 100);
        x.pass(5);
        due("giveUp(0)", x.giveUp(0), 100);
        dueRows("loan(0, ..)", Markets.loan(x, 0), 4, 500, 0, NONE, 0, 0, 0, 0, NONE, 0, 1, 0, 0);
        due("pass(1)", x.pass(1), 0);
    }

    @Says(in = "SALE", value = "When a loan is repaid, sold or given up, it is 0 months in arrears, and a switch that was "
        + "ordered for it is gone.")
    static void itsServicerStaysWhenItEnds() {
        PeerNotes repaid = Markets.runningWith(2, 1000, 0, 10);
        repaid.switchServicer(0, 3);
        due("pay(0, 1020)", repaid.pay(0, 1020), 0);
        dueRows("loan(0, ..)", Markets.loan(repaid, 0), 2, 1000, 0, 100, 0, 0, 0, 2, NONE, 0, 1, 0, 0);
        due("servicer(2, 2)", repaid.servicer(2, 2), 0);
        due("servicer(2, 1)", repaid.servicer(2, 1), 20);
        PeerNotes sold = Markets.runningWith(1, 1000, 0, 10);
        sold.pass(3);
        sold.switchServicer(0, 3);
        due("sell(0, 999)", sold.sell(0, 999), 1);
        dueRows("loan(0, ..)", Markets.loan(sold, 0), 3, 1000, 0, 100, 0, 0, 0, 1, NONE, 0, 1, 0, 0);
        due("servicer(1, 2)", sold.servicer(1, 2), 0);
    }

    // ---- TEXTS

    @Says(in = "TEXTS", value = "There is a text of at most 60 characters, empty at first.")
    static void theTextIsEmptyAtFirstAndHolds60() {
        PeerNotes x = new PeerNotes();
        due("count(17)", x.count(17), 0);
        due("readFundings() of the first text", x.readFundings(), -100);
        for (int i = 1; i <= 60; i++) {
            due("type", x.type('x'), i);
        }
        due("type, the 61st", x.type('x'), FULL);
        due("count(17)", x.count(17), 60);
    }

    @Says(in = "TEXTS", value = "A text of fundings is one or more fundings with \";\" between two.")
    static void oneToTenFundings() {
        String text = "";
        for (int fundings = 1; fundings <= 10; fundings++) {
            text = text + (fundings == 1 ? "" : ";") + "0>0s1";
            PeerNotes x = Markets.withInvestors(1000);
            x.openLoan(1000, 0, 1);
            due("read " + text, Markets.read(x, text), fundings);
            due("count(8)", x.count(8), fundings);
        }
    }

    @Says(in = "TEXTS", value = "A text of fundings is one or more fundings with \";\" between two.")
    static void aSemicolonStandsOnlyBetweenTwo() {
        PeerNotes x = Markets.withInvestors(1000);
        x.openLoan(1000, 0, 1);
        due("read \";\"", Markets.read(x, ";"), -100);
        due("read \";0>0s1\"", Markets.read(x, ";0>0s1"), -100);
        due("read \"0>0s1;\"", Markets.read(x, "0>0s1;"), -106);
        due("read \"0>0s1;;0>0s1\"", Markets.read(x, "0>0s1;;0>0s1"), -106);
        due("read \"0>0s10>0s1\"", Markets.read(x, "0>0s10>0s1"), -106);
        due("read \"0>0s1,0>0s1\"", Markets.read(x, "0>0s1,0>0s1"), -105);
        due("read \"0>0s1 ;0>0s1\"", Markets.read(x, "0>0s1 ;0>0s1"), -105);
        due("count(8)", x.count(8), 0);
    }

    private static boolean isAllowed(char sign, int place) {
        String[] allowed = {"0123456789", ">", "0123456789", "sj", "123456789", "0123456789;", "0123456789;", "0123456789;",
            "0123456789;", ";"};
        return allowed[place].indexOf(sign) >= 0;
    }

    /** What is due of a text that is sound but for the sign at one place, and ends with it. */
    private static int dueUpTo(char sign, int place) {
        if (!isAllowed(sign, place)) {
            return -100 - place;
        }
        return place < 4 || sign == ';' ? -100 - (place + 1) : UNKNOWN;
    }

    @Says(in = "TEXTS", value = "A funding is an investor (one digit), \">\", a loan (one digit), \"s\" or \"j\" (senior or "
        + "junior), and coins (one to five digits, the first one not 0).")
    static void eachSignAtEachPlace() {
        String sound = "1>2j98765";
        for (int place = 0; place <= sound.length(); place++) {
            for (int sign = 0; sign < 400; sign++) {
                dueAtPlace(sound, place, (char) sign);
            }
            for (int digit = 0; digit < 10; digit++) {
                // Digits of other scripts, and signs that a cast to a byte makes digits.
                dueAtPlace(sound, place, (char) (0x660 + digit));
                dueAtPlace(sound, place, (char) (0xFF10 + digit));
                dueAtPlace(sound, place, (char) (0x3100 + '0' + digit));
            }
            dueAtPlace(sound, place, (char) 65535);
        }
    }

    private static void dueAtPlace(String sound, int place, char sign) {
        PeerNotes x = new PeerNotes();
        String text = sound.substring(0, place) + sign;
        due("read \"" + sound.substring(0, place) + "\" and (char) " + (int) sign, Markets.read(x, text),
            dueUpTo(sign, place));
    }

    @Says(in = "TEXTS", value = "coins (one to five digits, the first one not 0)")
    static void coinsOfOneToFiveDigits() {
        int[] coins = {1, 9, 10, 99, 100, 999, 1000, 9999, 10000, 99999};
        for (int some : coins) {
            PeerNotes x = Markets.withInvestors(100000);
            x.openLoan(99999, 0, 1);
            due("read 0>0s" + some, Markets.read(x, "0>0s" + some), 1);
            due("note(0, 4)", x.note(0, 4), some);
        }
        PeerNotes y = Markets.withInvestors(100000);
        y.openLoan(99999, 0, 1);
        due("read 0>0s100000", Markets.read(y, "0>0s100000"), -109);
        due("read 0>0s0", Markets.read(y, "0>0s0"), -104);
        due("read 0>0s05", Markets.read(y, "0>0s05"), -104);
        due("read 0>0s", Markets.read(y, "0>0s"), -104);
    }

    @Says(in = "TEXTS", value = "an investor (one digit), \">\", a loan (one digit)")
    static void theLastInvestorAndTheLastLoan() {
        PeerNotes x = Markets.withInvestors(0, 0, 0, 0, 0, 0, 0, 500);
        for (int i = 0; i < 10; i++) {
            x.openLoan(1000, 0, 1);
        }
        due("read 7>9j500", Markets.read(x, "7>9j500"), 1);
        dueRows("note(0, ..)", Markets.note(x, 0), 7, 9, 1, 500, 500, 0, 0);
        due("read 8>9j1", Markets.read(x, "8>9j1"), UNKNOWN);
        due("read 9>9j1", Markets.read(x, "9>9j1"), UNKNOWN);
        due("read 10>9j1", Markets.read(x, "10>9j1"), -101);
        due("read 7>10j1", Markets.read(x, "7>10j1"), -103);
    }

    @Says(in = "TEXTS", value = "The fault of the text is the index, from 0, of the first character that is not allowed at "
        + "its place, or the length of the text if it ends too early (the empty text does).")
    static void theEmptyTextAndTextsThatEndTooEarly() {
        String text = "0>0s1;0>0j2";
        int[] wanted = {-100, -101, -102, -103, -104, UNKNOWN, -106, -107, -108, -109, -110, UNKNOWN};
        for (int length = 0; length <= text.length(); length++) {
            due("read \"" + text.substring(0, length) + "\"",
                Markets.read(new PeerNotes(), text.substring(0, length)), wanted[length]);
        }
    }

    @Says(in = "TEXTS", value = "the first character that is not allowed at its place")
    static void theFirstOfTwoFaults() {
        due("read \"x>0sx\"", Markets.read(new PeerNotes(), "x>0sx"), -100);
        due("read \"0>xsx\"", Markets.read(new PeerNotes(), "0>xsx"), -102);
        due("read \"0>0s1;x>0\"", Markets.read(new PeerNotes(), "0>0s1;x>0"), -106);
        due("read \"0>0s1;0x\"", Markets.read(new PeerNotes(), "0>0s1;0x"), -107);
    }

    @Says(in = "TEXTS", value = "The fault of the text is the index, from 0, of the first character that is not allowed at "
        + "its place, or the length of the text if it ends too early (the empty text does).")
    static void faultsOfTheLongestText() {
        String ten = "0>0s1;0>0s1;0>0s1;0>0s1;0>0s1;0>0s1;0>0s1;0>0s1;0>0s1;0>0s1";
        due("its length", ten.length(), 59);
        due("read ten and a coin", Markets.read(new PeerNotes(), ten + "1"), UNKNOWN);
        due("read ten and \";\"", Markets.read(new PeerNotes(), ten + ";"), -160);
        due("read ten and a sign", Markets.read(new PeerNotes(), ten + "?"), -159);
        due("read a sign too many digits", Markets.read(new PeerNotes(), ten.substring(0, 54) + "000000"), -155);
        String sixOfNine = "0>0s12345;0>0s12345;0>0s12345;0>0s12345;0>0s12345;0>0s12345;";
        due("its length", sixOfNine.length(), 60);
        due("read six and \";\"", Markets.read(new PeerNotes(), sixOfNine), -160);
    }

    // ---- HISTORY

    @Says(in = "HISTORY",
        value = "A history of at most 4 states is kept; when one more is recorded, the oldest one is dropped")
    static void theFifthStateDropsTheOldest() {
        PeerNotes x = new PeerNotes();
        int[] states = {1, 2, 3, 4, 4, 4};
        for (int i = 0; i < 6; i++) {
            x.addInvestor(i);
            due("count(16)", x.count(16), states[i]);
        }
        for (int left = 3; left >= 0; left--) {
            due("undo()", x.undo(), left);
            due("count(1)", x.count(1), left + 2);
        }
        due("undo()", x.undo(), NONE);
        due("count(1)", x.count(1), 2);
    }

    @Says(in = "HISTORY",
        value = "A history of at most 4 states is kept; when one more is recorded, the oldest one is dropped")
    static void fourStatesAreAllThere() {
        PeerNotes x = new PeerNotes();
        for (int i = 0; i < 4; i++) {
            x.addInvestor(i);
        }
        for (int left = 3; left >= 0; left--) {
            due("undo()", x.undo(), left);
            due("count(1)", x.count(1), left);
        }
        due("undo()", x.undo(), NONE);
    }

    @Says(in = "HISTORY", value = "undo() removes and restores the latest one")
    static void undoAndActsInTurn() {
        PeerNotes x = Markets.withInvestors(10);
        for (int i = 0; i < 20; i++) {
            due("deposit(0, 5)", x.deposit(0, 5), 15);
            due("undo()", x.undo(), 1);
            due("investor(0, 0)", x.investor(0, 0), 10);
        }
        due("undo()", x.undo(), 0);
        due("count(1)", x.count(1), 0);
        due("undo()", x.undo(), NONE);
        due("addInvestor(3)", x.addInvestor(3), 0);
        due("count(16)", x.count(16), 1);
    }

    @Says(in = "HISTORY", value = "Each call of a method that is described as an act, and returns no error and not NONE, "
        + "records the state that was before it.")
    static void errorsAndNoneRecordNothing() {
        PeerNotes x = Markets.withInvestors(10);
        x.openLoan(100, 0, 1);
        refused("addInvestor(-1)", x, y -> y.addInvestor(-1), BAD_VALUE);
        refused("setPoolShare(5)", x, y -> y.setPoolShare(5), NONE);
        refused("fund(0, 0, false, 11)", x, y -> y.fund(0, 0, false, 11), NOT_POSSIBLE);
        refused("restore()", x, PeerNotes::restore, NONE);
        refused("readFundings()", x, PeerNotes::readFundings, -100);
        due("undo()", x.undo(), 1);
        due("count(2)", x.count(2), 0);
    }

    @Says(in = "HISTORY", value = "There is one snapshot, empty at first.")
    static void theSnapshotIsEmptyAtFirst() {
        PeerNotes x = new PeerNotes();
        due("restore()", x.restore(), NONE);
        x.addInvestor(5);
        due("restore()", x.restore(), NONE);
        due("keep()", x.keep(), 0);
        x.addInvestor(6);
        due("keep()", x.keep(), 0);
        x.addInvestor(7);
        due("restore()", x.restore(), 0);
        due("count(1): the second snapshot is in place of the first", x.count(1), 2);
    }

    @Says(in = "HISTORY", value = "A state is everything but the text, the history and the snapshot.")
    static void undoLeavesTheTextAndTheSnapshot() {
        PeerNotes x = Markets.withInvestors(5);
        x.keep();
        x.addInvestor(6);
        Markets.write(x, "0>0");
        due("undo()", x.undo(), 1);
        due("undo()", x.undo(), 0);
        due("count(17)", x.count(17), 3);
        due("readFundings()", x.readFundings(), -103);
        due("restore()", x.restore(), 0);
        due("count(1)", x.count(1), 1);
    }

    @Says(in = "HISTORY", value = "A state is everything but the text, the history and the snapshot.")
    static void restoreLeavesTheTextAndTheHistory() {
        PeerNotes x = new PeerNotes();
        x.keep();
        Markets.write(x, "0>0");
        x.addInvestor(5);
        x.addInvestor(6);
        due("restore()", x.restore(), 0);
        due("count(17)", x.count(17), 3);
        due("readFundings()", x.readFundings(), -103);
        due("count(16)", x.count(16), 3);
        due("undo()", x.undo(), 2);
        due("count(1)", x.count(1), 2);
        due("undo()", x.undo(), 1);
        due("count(1)", x.count(1), 1);
    }

    @Says(in = "HISTORY", value = "A state is everything but the text, the history and the snapshot.")
    static void undoBringsEverythingBack() {
        PeerNotes x = Markets.ofEachState();
        x.switchServicer(1, 2);
        x.pay(1, 500);
        List<String> before = Markets.told(x);
        due("setPoolShare(17)", x.setPoolShare(17), 5);
        due("pass(4)", x.pass(4), 1);
        // The seniors have 142 still, and the pool has 4.
        due("sell(1, 100)", x.sell(1, 100), 438);
        due("giveUp(0)", x.giveUp(0), 300);
        for (int left = 3; left >= 0; left--) {
            due("undo()", x.undo(), left);
        }
        same("after four acts that are undone", Markets.told(x), before);
    }

    // ---- ERRORS

    @Says(in = "ERRORS", value = "Where several errors can apply, the order of the @return line is the order of the checks.")
    static void theOrderOfThreeErrors() {
        PeerNotes x = Markets.sixtyNotes();
        due("fund(1, 0, false, 0): no investor, bad coins, no room", x.fund(1, 0, false, 0), UNKNOWN);
        due("fund(0, 0, false, 100000): bad coins, not so many, no room", x.fund(0, 0, false, 100000), BAD_VALUE);
        due("fund(0, 0, false, 5000): not so many are missing, no room", x.fund(0, 0, false, 5000), NOT_POSSIBLE);
        due("fund(0, 0, false, 1): no room", x.fund(0, 0, false, 1), FULL);
    }

    @Says(in = "ERRORS", value = "NONE is no error; it is returned only if no error applies.")
    static void noneOnlyWithoutAnError() {
        PeerNotes x = Markets.withInvestors(1000);
        x.openLoan(100, 0, 1);
        // It has servicer 0, and none is ordered: but it does not run.
        due("switchServicer(0, 0) in funding", x.switchServicer(0, 0), NOT_POSSIBLE);
        due("switchServicer(1, 0)", x.switchServicer(1, 0), UNKNOWN);
        due("loan(1, 8)", x.loan(1, 8), UNKNOWN);
        due("loan(0, 8)", x.loan(0, 8), NONE);
        x.fund(0, 0, false, 100);
        due("switchServicer(0, 0) when it runs", x.switchServicer(0, 0), NONE);
    }

    @Says(in = "ERRORS", value = "A call that returns an error or NONE changes nothing.")
    static void aRefusedCallChangesNothing() {
        PeerNotes x = Markets.ofEachState();
        List<String> before = Markets.told(x);
        due("pay(1, 199999)", x.pay(1, 199999), NOT_POSSIBLE);
        due("sellNote(1, 0, 0)", x.sellNote(1, 0, 0), BAD_VALUE);
        due("setPoolShare(5)", x.setPoolShare(5), NONE);
        due("sell(9, 5)", x.sell(9, 5), UNKNOWN);
        same("after refused calls", Markets.told(x), before);
    }

    @Says(in = "ERRORS", value = {"Errors are reported by the constants below.", "The constants: `UNKNOWN = -1`:",
        "`BAD_VALUE = -2`:", "`FULL = -3`:", "`NOT_POSSIBLE = -4`:", "`NONE = -5`:"})
    static void theConstants() {
        due("UNKNOWN", PeerNotes.UNKNOWN, -1);
        due("BAD_VALUE", PeerNotes.BAD_VALUE, -2);
        due("FULL", PeerNotes.FULL, -3);
        due("NOT_POSSIBLE", PeerNotes.NOT_POSSIBLE, -4);
        due("NONE", PeerNotes.NONE, -5);
    }

    @Says(in = "ERRORS", value = "There is no such investor, servicer, loan or note.")
    static void allThatIsUnknown() {
        PeerNotes x = Markets.ofEachState();
        due("no investor 2: deposit", x.deposit(2, 1), -1);
        due("no investor 2: fund", x.fund(2, 0, false, 1), -1);
        due("no investor 2: sellNote", x.sellNote(1, 2, 0), -1);
        due("no investor 2: readFundings", Markets.read(x, "2>0s1"), -1);
        due("no investor 2: investor", x.investor(2, 0), -1);
        due("no loan 5: fund", x.fund(0, 5, false, 1), -1);
        due("no loan 5: giveUp", x.giveUp(5), -1);
        due("no loan 5: pay", x.pay(5, 1), -1);
        due("no loan 5: cure", x.cure(5, 1), -1);
        due("no loan 5: sell", x.sell(5, 0), -1);
        due("no loan 5: switchServicer", x.switchServicer(5, 1), -1);
        due("no loan 5: readFundings", Markets.read(x, "0>5s1"), -1);
        due("no loan 5: loan", x.loan(5, 0), -1);
        due("no loan 5: split", x.split(5, 1, 0), -1);
        due("no loan 5: toRepay", x.toRepay(5), -1);
        due("no note 6: sellNote", x.sellNote(6, 0, 0), -1);
        due("no note 6: note", x.note(6, 0), -1);
        due("no servicer 4: switchServicer", x.switchServicer(1, 4), -1);
        due("no servicer 4: servicer", x.servicer(4, 0), -1);
    }

    @Says(in = "ERRORS", value = "Another argument is out of range.")
    static void allThatIsOutOfRange() {
        PeerNotes x = Markets.ofEachState();
        due("addInvestor(-1)", x.addInvestor(-1), -2);
        due("deposit(0, 0)", x.deposit(0, 0), -2);
        due("setPoolShare(51)", x.setPoolShare(51), -2);
        due("openLoan(99, 0, 1)", x.openLoan(99, 0, 1), -2);
        due("openLoan(100, 51, 1)", x.openLoan(100, 51, 1), -2);
        due("openLoan(100, 0, 37)", x.openLoan(100, 0, 37), -2);
        due("fund(0, 0, false, 0)", x.fund(0, 0, false, 0), -2);
        due("pay(1, 0)", x.pay(1, 0), -2);
        due("cure(1, 0)", x.cure(1, 0), -2);
        due("sell(1, -1)", x.sell(1, -1), -2);
        due("sellNote(1, 1, -1)", x.sellNote(1, 1, -1), -2);
        due("pass(0)", x.pass(0), -2);
        due("investor(0, 6)", x.investor(0, 6), -2);
        due("loan(0, 13)", x.loan(0, 13), -2);
        due("note(0, 7)", x.note(0, 7), -2);
        due("split(1, 0, 0)", x.split(1, 0, 0), -2);
        due("split(1, 1, 6)", x.split(1, 1, 6), -2);
        due("servicer(0, 3)", x.servicer(0, 3), -2);
        due("count(18)", x.count(18), -2);
    }

    @Says(in = "ERRORS", value = "There is no more room.")
    static void allThatIsFull() {
        PeerNotes x = Markets.sixtyNotes();
        due("deposit to the most", x.deposit(0, MOST - 1000), MOST);
        due("deposit", x.deposit(0, 1), -3);
        due("giveUp: no room for 60 coins", x.giveUp(0), -3);
        due("fund, the 61st", x.fund(0, 0, false, 1), -3);
        due("readFundings, the 61st", Markets.read(x, "0>0s1"), -3);
        for (int i = 1; i < 8; i++) {
            x.addInvestor(1000);
        }
        due("addInvestor, the ninth", x.addInvestor(0), -3);
        for (int i = 1; i < 10; i++) {
            x.openLoan(100, 0, 1);
        }
        due("openLoan, the eleventh", x.openLoan(100, 0, 1), -3);
        for (int i = 5; i < 60; i++) {
            x.type('1');
        }
        due("type, the 61st", x.type('1'), -3);
        PeerNotes y = Markets.seniorAndJunior();
        y.pass(4);
        y.deposit(0, MOST - 9400);
        due("pay", y.pay(0, 50), -3);
        due("sell", y.sell(0, 50), -3);
        due("sellNote", y.sellNote(0, 1, 1), -3);
    }

    @Says(in = "ERRORS", value = "This is not possible.")
    static void allThatIsNotPossible() {
        PeerNotes x = Markets.ofEachState();
        due("fund a loan that runs", x.fund(0, 1, false, 1), -4);
        due("readFundings for a loan that runs", Markets.read(x, "0>1s1"), -4);
        due("giveUp a loan that runs", x.giveUp(1), -4);
        due("pay for a loan in funding", x.pay(0, 1), -4);
        due("cure a loan in funding", x.cure(0, 1), -4);
        due("sell a loan in funding", x.sell(0, 0), -4);
        due("switchServicer of a loan in funding", x.switchServicer(0, 1), -4);
        due("sellNote of a loan in funding", x.sellNote(0, 1, 0), -4);
        due("split for a loan in funding", x.split(0, 1, 0), -4);
        due("toRepay a loan in funding", x.toRepay(0), -4);
        due("pass the last month", Markets.atTheLastMonth().pass(1), -4);
    }

    @Says(in = "ERRORS", value = "There is no such thing; not an error.")
    static void allThatIsNone() {
        PeerNotes x = new PeerNotes();
        due("undo()", x.undo(), -5);
        due("restore()", x.restore(), -5);
        due("setPoolShare(5)", x.setPoolShare(5), -5);
        PeerNotes y = Markets.ofEachState();
        due("switchServicer(1, 0)", y.switchServicer(1, 0), -5);
        due("loan(0, 3)", y.loan(0, 3), -5);
        due("loan(0, 8)", y.loan(0, 8), -5);
    }
}
