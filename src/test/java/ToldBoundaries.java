/** The boundary cases of the promises 20 to 26: what is told; a test each. */
public final class ToldBoundaries extends Sentences {
    public static void main(String[] args) {
        run(ToldBoundaries.class);
    }

    // ---- 20

    @Says(in = "Promise 20", value = {"- `investor`: an investor", "UNKNOWN"})
    static void theLastInvestorAndTheNext() {
        PeerNotes x = Markets.withInvestors(3, 4);
        int[] none = {-1, 2, 8, LEAST, MOST};
        for (int investor : none) {
            refused("investor(" + investor + ", 0)", x, y -> y.investor(investor, 0), UNKNOWN);
        }
        due("investor(0, 0)", x.investor(0, 0), 3);
        due("investor(1, 0)", x.investor(1, 0), 4);
        x.undo();
        due("investor(1, 0) after undo()", x.investor(1, 0), UNKNOWN);
    }

    @Says(in = "Promise 20", value = {"- `what`: 0 for the cash", "5 for the losses so far", "Returns the number;", "BAD_VALUE"})
    static void whatOfAnInvestorFrom0To5() {
        PeerNotes x = Markets.withInvestors(3);
        int[] bad = {-1, 6, LEAST, MOST};
        for (int what : bad) {
            refused("investor(0, " + what + ")", x, y -> y.investor(0, what), BAD_VALUE);
        }
        dueRows("investor(0, ..)", Markets.investor(x, 0), 3, 0, 0, 0, 0, 0);
    }

    @Says(in = "Promise 20", value = "UNKNOWN; BAD_VALUE.")
    static void theOrderOfTheErrorsOfInvestor() {
        PeerNotes x = Markets.withInvestors(3);
        due("investor(1, 6)", x.investor(1, 6), UNKNOWN);
        due("investor(-1, -1)", x.investor(-1, -1), UNKNOWN);
    }

    @Says(in = "Promise 20", value = {"1 for the principals of the investor's notes together",
        "2 for the number of notes whose principal is not 0"})
    static void notesWithAndWithoutPrincipal() {
        PeerNotes x = Markets.withInvestors(1000);
        x.openLoan(100, 0, 1);
        x.fund(0, 0, false, 1);
        x.fund(0, 0, false, 1);
        dueRows("investor(0, ..) in funding", Markets.investor(x, 0), 998, 2, 2, 1, 0, 0);
        x.fund(0, 0, true, 98);
        dueRows("investor(0, ..) when it runs", Markets.investor(x, 0), 900, 100, 3, 1, 0, 0);
        x.pay(0, 1);
        dueRows("investor(0, ..): a note has nothing", Markets.investor(x, 0), 901, 99, 2, 1, 0, 0);
        x.pay(0, 98);
        dueRows("investor(0, ..): a coin is left", Markets.investor(x, 0), 999, 1, 1, 1, 0, 0);
        x.pay(0, 1);
        dueRows("investor(0, ..): it is repaid", Markets.investor(x, 0), 1000, 0, 0, 0, 0, 0);
    }

    @Says(in = "Promise 20", value = {"1 for the principals of the investor's notes together",
        "2 for the number of notes whose principal is not 0"})
    static void notesOfOthersDoNotCount() {
        PeerNotes x = Markets.noteByNote(0, 1, 10, 20, -70);
        x.addInvestor(5);
        dueRows("investor(0, ..)", Markets.investor(x, 0), 0, 10, 1, 1, 0, 0);
        dueRows("investor(1, ..)", Markets.investor(x, 1), 0, 20, 1, 1, 0, 0);
        dueRows("investor(2, ..)", Markets.investor(x, 2), 0, 70, 1, 1, 0, 0);
        dueRows("investor(3, ..)", Markets.investor(x, 3), 5, 0, 0, 0, 0, 0);
    }

    @Says(in = "Promise 20", value = "3 for the loans for which the investor has any such note (as bits)")
    static void theBitsOfAllLoans() {
        PeerNotes x = Markets.withInvestors(1000, 1000);
        for (int i = 0; i < 10; i++) {
            x.openLoan(100, 0, 1);
        }
        int bits = 0;
        for (int i = 9; i >= 0; i--) {
            x.fund(0, i, false, 7);
            bits |= 1 << i;
            due("investor(0, 3)", x.investor(0, 3), bits);
        }
        due("investor(0, 3) of all", x.investor(0, 3), 1023);
        x.fund(0, 4, true, 7);
        due("investor(0, 3): two notes of a loan", x.investor(0, 3), 1023);
        due("investor(1, 3) of none", x.investor(1, 3), 0);
        x.giveUp(0);
        x.giveUp(9);
        due("investor(0, 3): two are given up", x.investor(0, 3), 1023 - 1 - 512);
    }

    @Says(in = "Promise 20", value = "4 for the interest that the investor got so far, 5 for the losses so far")
    static void interestAndLossesStayWithTheInvestor() {
        PeerNotes x = Markets.seniorAndJunior();
        x.pass(1);
        x.pay(0, 50);
        due("sellNote(0, 1, 0)", x.sellNote(0, 1, 0), 600);
        due("investor(0, 4): it stays", x.investor(0, 4), 29);
        due("investor(1, 4)", x.investor(1, 4), 19);
        x.pass(3);
        due("sell(0, 0): the pool has 2", x.sell(0, 0), 998);
        due("investor(0, 5)", x.investor(0, 5), 0);
        due("investor(1, 5)", x.investor(1, 5), 998);
        due("investor(0, 4): after the sale", x.investor(0, 4), 29);
    }

    // ---- 21

    @Says(in = "Promise 21", value = {"- `loan`: a loan", "UNKNOWN"})
    static void theLastLoanAndTheNext() {
        PeerNotes x = new PeerNotes();
        x.openLoan(100, 0, 1);
        x.openLoan(200, 0, 1);
        int[] none = {-1, 2, 10, LEAST, MOST};
        for (int loan : none) {
            refused("loan(" + loan + ", 1)", x, y -> y.loan(loan, 1), UNKNOWN);
        }
        due("loan(0, 1)", x.loan(0, 1), 100);
        due("loan(1, 1)", x.loan(1, 1), 200);
        x.undo();
        due("loan(1, 1) after undo()", x.loan(1, 1), UNKNOWN);
    }

    @Says(in = "Promise 21", value = {"- `what`: 0 for its state, 1 for its amount", "12 for those of its junior ones",
        "Returns the number;", "BAD_VALUE"})
    static void whatOfALoanFrom0To12() {
        PeerNotes x = Markets.seniorAndJunior();
        int[] bad = {-1, 13, LEAST, MOST};
        for (int what : bad) {
            refused("loan(0, " + what + ")", x, y -> y.loan(0, what), BAD_VALUE);
        }
        dueRows("loan(0, ..)", Markets.loan(x, 0), 1, 1000, 1000, 100, 0, 0, 0, 0, NONE, 0, 2, 600, 400);
    }

    @Says(in = "Promise 21", value = "UNKNOWN; BAD_VALUE.")
    static void theOrderOfTheErrorsOfLoan() {
        PeerNotes x = Markets.seniorAndJunior();
        due("loan(1, 13)", x.loan(1, 13), UNKNOWN);
        due("loan(-1, -1)", x.loan(-1, -1), UNKNOWN);
    }

    @Says(in = "Promise 21", value = "2 for its principal (0 if it does not run)")
    static void thePrincipalInEachState() {
        PeerNotes x = Markets.ofEachState();
        int[] want = {0, 1000, 0, 0, 0};
        for (int loan = 0; loan < 5; loan++) {
            due("loan(" + loan + ", 2)", x.loan(loan, 2), want[loan]);
        }
    }

    @Says(in = "Promise 21", value = "3 for its instalment (NONE if it never ran)")
    static void theInstalmentInEachState() {
        PeerNotes x = Markets.ofEachState();
        int[] want = {NONE, 100, 100, 100, NONE};
        for (int loan = 0; loan < 5; loan++) {
            due("loan(" + loan + ", 3)", x.loan(loan, 3), want[loan]);
        }
        x.fund(0, 0, false, 700);
        due("loan(0, 3) when it runs", x.loan(0, 3), 100);
        x.undo();
        due("loan(0, 3) after undo()", x.loan(0, 3), NONE);
    }

    @Says(in = "Promise 21",
        value = "4 for the interest due, 5 for the principal due, 6 for its months in arrears, 7 for its servicer")
    static void whatIsDueInEachState() {
        PeerNotes x = Markets.ofEachState();
        x.switchServicer(1, 3);
        x.pass(1);
        for (int loan = 0; loan < 5; loan++) {
            boolean runs = loan == 1;
            due("loan(" + loan + ", 4)", x.loan(loan, 4), runs ? 50 : 0);
            due("loan(" + loan + ", 5)", x.loan(loan, 5), runs ? 500 : 0);
            due("loan(" + loan + ", 6)", x.loan(loan, 6), runs ? 4 : 0);
            due("loan(" + loan + ", 7)", x.loan(loan, 7), runs ? 3 : 0);
        }
    }

    @Says(in = "Promise 21", value = "8 for the servicer that is ordered (NONE if none is)")
    static void theOrderOfServicer0() {
        PeerNotes x = Markets.runningWith(1, 1000, 0, 10);
        due("loan(0, 8)", x.loan(0, 8), NONE);
        x.switchServicer(0, 0);
        due("loan(0, 8): servicer 0 is ordered", x.loan(0, 8), 0);
        x.switchServicer(0, 1);
        due("loan(0, 8): its own is ordered", x.loan(0, 8), 1);
        x.pass(1);
        due("loan(0, 8)", x.loan(0, 8), NONE);
    }

    @Says(in = "Promise 21", value = "9 for the coins that are missing (0 if it is not in funding)")
    static void whatIsMissingInEachState() {
        PeerNotes x = Markets.ofEachState();
        int[] want = {700, 0, 0, 0, 0};
        for (int loan = 0; loan < 5; loan++) {
            due("loan(" + loan + ", 9)", x.loan(loan, 9), want[loan]);
        }
        x.openLoan(99999, 0, 1);
        due("loan(5, 9) without notes", x.loan(5, 9), 99999);
    }

    @Says(in = "Promise 21", value = "10 for the number of its notes, 11 for the principals of its senior notes together, 12 "
        + "for those of its junior ones")
    static void notesInEachState() {
        PeerNotes x = Markets.ofEachState();
        int[][] want = {{1, 300, 0}, {2, 600, 400}, {1, 0, 0}, {1, 0, 0}, {1, 0, 0}};
        for (int loan = 0; loan < 5; loan++) {
            for (int i = 0; i < 3; i++) {
                due("loan(" + loan + ", " + (10 + i) + ")", x.loan(loan, 10 + i), want[loan][i]);
            }
        }
        x.fund(1, 0, true, 20);
        x.fund(0, 0, true, 30);
        due("loan(0, 10)", x.loan(0, 10), 3);
        due("loan(0, 11)", x.loan(0, 11), 300);
        due("loan(0, 12)", x.loan(0, 12), 50);
        PeerNotes full = Markets.sixtyNotes();
        due("loan(0, 10) of 60", full.loan(0, 10), 60);
        due("loan(0, 11) of 60", full.loan(0, 11), 30);
        due("loan(0, 12) of 60", full.loan(0, 12), 30);
    }

    // ---- 22

    @Says(in = "Promise 22", value = {"- `note`: a note", "UNKNOWN"})
    static void theLastNoteAndTheNext() {
        PeerNotes x = Markets.seniorAndJunior();
        int[] none = {-1, 2, 60, LEAST, MOST};
        for (int note : none) {
            refused("note(" + note + ", 3)", x, y -> y.note(note, 3), UNKNOWN);
        }
        dueRows("note(.., 3)", Markets.notes(x, 3), 600, 400);
        x.undo();
        due("note(1, 3) after undo()", x.note(1, 3), UNKNOWN);
        PeerNotes full = Markets.sixtyNotes();
        due("note(59, 3)", full.note(59, 3), 1);
        due("note(60, 3)", full.note(60, 3), UNKNOWN);
    }

    @Says(in = "Promise 22", value = {"- `what`: 0 for its investor, 1 for its loan, 2 for its class", "6 for its loss",
        "Returns the number;", "BAD_VALUE"})
    static void whatOfANoteFrom0To6() {
        PeerNotes x = Markets.seniorAndJunior();
        int[] bad = {-1, 7, LEAST, MOST};
        for (int what : bad) {
            refused("note(0, " + what + ")", x, y -> y.note(0, what), BAD_VALUE);
        }
        dueRows("note(1, ..)", Markets.note(x, 1), 1, 0, 1, 400, 400, 0, 0);
    }

    @Says(in = "Promise 22", value = "UNKNOWN; BAD_VALUE.")
    static void theOrderOfTheErrorsOfNote() {
        PeerNotes x = Markets.seniorAndJunior();
        due("note(2, 7)", x.note(2, 7), UNKNOWN);
        due("note(-1, -1)", x.note(-1, -1), UNKNOWN);
    }

    @Says(in = "Promise 22", value = "3 for its principal, 4 for the coins with which it was funded, 5 for the interest that "
        + "it brought so far, 6 for its loss")
    static void aNoteToItsEnd() {
        PeerNotes x = Markets.seniorAndJunior();
        x.pass(1);
        // 50 of interest, 2 of it for the pool; the fee is 0.
        x.pay(0, 150);
        dueRows("note(0, ..) after a payment", Markets.note(x, 0), 0, 0, 0, 500, 600, 29, 0);
        x.sellNote(0, 1, 77);
        dueRows("note(0, ..) after it was sold", Markets.note(x, 0), 1, 0, 0, 500, 600, 29, 0);
        x.pass(4);
        x.sell(0, 400);
        dueRows("note(0, ..) after the sale", Markets.note(x, 0), 1, 0, 0, 0, 600, 29, 98);
        dueRows("note(1, ..) after the sale", Markets.note(x, 1), 1, 0, 1, 0, 400, 19, 400);
    }

    // ---- 23

    @Says(in = "Promise 23", value = {"- `loan`: a loan", "UNKNOWN"})
    static void splitOfTheLastLoanAndOfTheNext() {
        PeerNotes x = Markets.seniorAndJunior();
        int[] none = {-1, 1, 10, LEAST, MOST};
        for (int loan : none) {
            refused("split(" + loan + ", 1, 3)", x, y -> y.split(loan, 1, 3), UNKNOWN);
        }
        due("split(0, 1, 3)", x.split(0, 1, 3), 1);
    }

    @Says(in = "Promise 23", value = {"- `coins`: 1 to 199999", "BAD_VALUE"})
    static void splitOf1To199999() {
        PeerNotes x = Markets.running(99999, 50, 36);
        x.pass(24);
        int[] bad = {0, -1, 200000, LEAST, MOST};
        for (int coins : bad) {
            refused("split(0, " + coins + ", 1)", x, y -> y.split(0, coins, 1), BAD_VALUE);
        }
        dueRows("split(0, 1, ..)", Markets.split(x, 0, 1), 0, 1, 0, 0, 0, 0);
        dueRows("split(0, 199999, ..)", Markets.split(x, 0, 199999), 999, 119976, 5998, 79024, 79024, 0);
    }

    @Says(in = "Promise 23", value = {"- `what`: 0 for the fee", "5 for that of junior ones", "Returns the coins;", "BAD_VALUE"})
    static void whatOfASplitFrom0To5() {
        PeerNotes x = Markets.seniorAndJunior();
        x.pass(1);
        int[] bad = {-1, 6, LEAST, MOST};
        for (int what : bad) {
            refused("split(0, 1, " + what + ")", x, y -> y.split(0, 1, what), BAD_VALUE);
        }
        // The fee is 4: 50 of interest, 600 and 246 of principal.
        dueRows("split(0, 900, ..)", Markets.split(x, 0, 900), 4, 50, 2, 846, 600, 246);
    }

    @Says(in = "Promise 23", value = "1 for interest (with that for the pool), 2 for what goes to the pool, 3 for principal, "
        + "4 for the principal of senior notes, 5 for that of junior ones")
    static void partsThatAre0() {
        PeerNotes x = Markets.seniorAndJunior();
        dueRows("split(0, 1, ..): no interest", Markets.split(x, 0, 1), 0, 0, 0, 1, 1, 0);
        x.pass(1);
        dueRows("split(0, 19, ..): nothing for the pool", Markets.split(x, 0, 19), 0, 19, 0, 0, 0, 0);
        dueRows("split(0, 20, ..): a coin for the pool", Markets.split(x, 0, 20), 0, 20, 1, 0, 0, 0);
        dueRows("split(0, 50, ..): no principal", Markets.split(x, 0, 50), 0, 50, 2, 0, 0, 0);
        dueRows("split(0, 199, ..): no fee", Markets.split(x, 0, 199), 0, 50, 2, 149, 149, 0);
        dueRows("split(0, 653, ..): nothing for juniors", Markets.split(x, 0, 653), 3, 50, 2, 600, 600, 0);
        dueRows("split(0, 654, ..): a coin for juniors", Markets.split(x, 0, 654), 3, 50, 2, 601, 600, 1);
        x.pay(0, 654);
        dueRows("split(0, 1, ..): nothing for seniors", Markets.split(x, 0, 1), 0, 0, 0, 1, 0, 1);
    }

    @Says(in = "Promise 23", value = "NOT_POSSIBLE if it does not run")
    static void splitInEachState() {
        PeerNotes x = Markets.ofEachState();
        int[] others = {0, 2, 3, 4};
        for (int loan : others) {
            for (int what = 0; what <= 5; what++) {
                due("split(" + loan + ", 1, " + what + ")", x.split(loan, 1, what), NOT_POSSIBLE);
            }
        }
        due("split(1, 1, 1)", x.split(1, 1, 1), 1);
    }

    @Says(in = "Promise 23",
        value = "or the coins less the fee are more than the interest due and the principal together.")
    static void splitOfAllThatIsOwedAndOneMore() {
        int[][] coinsByServicer = {{1055, 1056}, {1060, 1061}, {1071, 1072}, {1093, 1094}};
        for (int servicer = 0; servicer < 4; servicer++) {
            int most = coinsByServicer[servicer][0];
            PeerNotes x = Markets.runningWith(servicer, 1000, 50, 10);
            dueRows("split(0, " + most + ", ..)", Markets.split(x, 0, most), most - 1050, 50, 2, 1000, 1000, 0);
            for (int what = 0; what <= 5; what++) {
                due("split(0, " + (most + 1) + ", " + what + ")", x.split(0, most + 1, what), NOT_POSSIBLE);
            }
        }
    }

    @Says(in = "Promise 23", value = "UNKNOWN; BAD_VALUE; NOT_POSSIBLE")
    static void theOrderOfTheErrorsOfSplit() {
        PeerNotes x = Markets.ofEachState();
        due("split(5, 0, 6)", x.split(5, 0, 6), UNKNOWN);
        due("split(5, 1, 6)", x.split(5, 1, 6), UNKNOWN);
        due("split(0, 0, 0) in funding", x.split(0, 0, 0), BAD_VALUE);
        due("split(0, 1, 6) in funding", x.split(0, 1, 6), BAD_VALUE);
        due("split(1, 199999, 6)", x.split(1, 199999, 6), BAD_VALUE);
        due("split(1, 199999, 5)", x.split(1, 199999, 5), NOT_POSSIBLE);
    }

    @Says(in = "Promise 23", value = "Tells how a payment would be split now.")
    static void splitLooksAtNoCash() {
        PeerNotes x = Markets.seniorAndJunior();
        x.pass(1);
        x.deposit(0, MOST - 9400);
        due("pay(0, 50)", x.pay(0, 50), FULL);
        dueRows("split(0, 50, ..)", Markets.split(x, 0, 50), 0, 50, 2, 0, 0, 0);
    }

    @Says(in = "Promise 23", value = "Tells how a payment would be split now.")
    static void splitIsByTheServicerAndTheShareOfNow() {
        PeerNotes x = Markets.seniorAndJunior();
        x.pass(1);
        x.switchServicer(0, 3);
        x.setPoolShare(50);
        dueRows("split(0, 100, ..) before the month", Markets.split(x, 0, 100), 0, 50, 25, 50, 50, 0);
        x.pass(1);
        dueRows("split(0, 100, ..) after the month", Markets.split(x, 0, 100), 4, 96, 48, 0, 0, 0);
        due("count(16)", x.count(16), 4);
        x.undo();
        x.undo();
        dueRows("split(0, 100, ..) after undo()", Markets.split(x, 0, 100), 0, 50, 2, 50, 50, 0);
    }

    // ---- 24

    @Says(in = "Promise 24", value = {"- `loan`: a loan", "UNKNOWN"})
    static void toRepayTheLastLoanAndTheNext() {
        PeerNotes x = Markets.seniorAndJunior();
        int[] none = {-1, 1, 10, LEAST, MOST};
        for (int loan : none) {
            refused("toRepay(" + loan + ")", x, y -> y.toRepay(loan), UNKNOWN);
        }
        due("toRepay(0)", x.toRepay(0), 1005);
    }

    @Says(in = "Promise 24", value = "Returns the fewest coins with which a payment would repay it now")
    static void theFewestCoinsByServicer() {
        // The fewest coins that leave 1, 24, 25, 199, 200, 960, 1000 and 1050 coins.
        int[][] wanted = {{1, 24, 25, 199, 201, 964, 1005, 1055}, {1, 24, 25, 201, 202, 969, 1010, 1060},
            {1, 24, 25, 203, 204, 979, 1020, 1071}, {1, 24, 26, 207, 208, 999, 1041, 1093}};
        int[] owed = {1, 24, 25, 199, 200, 960, 1000, 1050};
        for (int servicer = 0; servicer < 4; servicer++) {
            for (int i = 0; i < owed.length; i++) {
                PeerNotes x = owing(servicer, owed[i]);
                int coins = wanted[servicer][i];
                due("toRepay(0), servicer " + servicer + ", " + owed[i] + " owed", x.toRepay(0), coins);
                due("split(0, toRepay, 3)", x.split(0, coins, 3), owed[i]);
                if (coins > 1) {
                    due("split(0, toRepay - 1, 3)", x.split(0, coins - 1, 3), owed[i] - 1);
                    due("pay(0, toRepay - 1)", x.pay(0, coins - 1), 1);
                    x.undo();
                }
                due("pay(0, toRepay)", x.pay(0, coins), 0);
                due("loan(0, 0)", x.loan(0, 0), 2);
            }
        }
    }

    /** Loan 0 owes so many coins of principal, and has this servicer. */
    private static PeerNotes owing(int servicer, int coins) {
        PeerNotes x = Markets.runningWith(servicer, 2000, 0, 1);
        int rest = 2000 - coins;
        int paid = rest;
        while (x.split(0, paid, 3) < rest) {
            paid++;
        }
        x.pay(0, paid);
        due("loan(0, 2)", x.loan(0, 2), coins);
        return x;
    }

    @Says(in = "Promise 24", value = "Returns the fewest coins with which a payment would repay it now")
    static void interestIsToBeRepaidToo() {
        PeerNotes x = Markets.seniorAndJunior();
        x.pass(2);
        due("toRepay(0) of 1100", x.toRepay(0), 1105);
        due("pay(0, 1105)", x.pay(0, 1105), 0);
    }

    @Says(in = "Promise 24", value = "(also more than 199999)")
    static void moreThanAPayment() {
        PeerNotes x = Markets.running(99999, 50, 36);
        x.pass(24);
        // 119976 and 99999 are owed: 221080 less a fee of 1105.
        due("toRepay(0)", x.toRepay(0), 221080);
        due("pay(0, 221080)", x.pay(0, 221080), BAD_VALUE);
        x.switchServicer(0, 3);
        for (int i = 0; i < 9; i++) {
            x.pass(24);
        }
        // 240 months of 4999 and 99999 are 1299759: 1353915 less a fee of 54156.
        due("toRepay(0) after 240 months", x.toRepay(0), 1353915);
    }

    @Says(in = "Promise 24", value = "(also more than 199999)")
    static void aboutAsMuchAsAPayment() {
        PeerNotes x = Markets.running(99999, 50, 36);
        x.pass(24);
        // 219975 are owed; the fee of 21079 coins is 105.
        due("pay(0, 21079)", x.pay(0, 21079), 99999);
        due("toRepay(0) of 199001", x.toRepay(0), 200001);
        due("pay(0, 200001)", x.pay(0, 200001), BAD_VALUE);
        due("pay(0, 199999)", x.pay(0, 199999), 1);
        x.undo();
        due("pay(0, 1)", x.pay(0, 1), 99999);
        due("toRepay(0) of 199000", x.toRepay(0), 199999);
        due("pay(0, 199999)", x.pay(0, 199999), 0);
    }

    @Says(in = "Promise 24", value = "NOT_POSSIBLE if it does not run.")
    static void toRepayInEachState() {
        PeerNotes x = Markets.ofEachState();
        int[] others = {0, 2, 3, 4};
        for (int loan : others) {
            refused("toRepay(" + loan + ")", x, y -> y.toRepay(loan), NOT_POSSIBLE);
        }
        due("toRepay(1)", x.toRepay(1), 1045);
    }

    // ---- 25

    @Says(in = "Promise 25", value = {"- `servicer`: 0 to 3", "UNKNOWN"})
    static void servicersBelow0AndAbove3() {
        PeerNotes x = new PeerNotes();
        int[] none = {-1, 4, NONE, LEAST, MOST};
        for (int servicer : none) {
            refused("servicer(" + servicer + ", 0)", x, y -> y.servicer(servicer, 0), UNKNOWN);
        }
        due("servicer(0, 0)", x.servicer(0, 0), 5);
        due("servicer(3, 0)", x.servicer(3, 0), 40);
    }

    @Says(in = "Promise 25", value = {"- `what`: 0 for the fee", "Returns the number;", "BAD_VALUE"})
    static void whatOfAServicerFrom0To2() {
        PeerNotes x = new PeerNotes();
        int[] bad = {-1, 3, LEAST, MOST};
        for (int what : bad) {
            refused("servicer(0, " + what + ")", x, y -> y.servicer(0, what), BAD_VALUE);
        }
        due("servicer(2, 0)", x.servicer(2, 0), 20);
        due("servicer(2, 1)", x.servicer(2, 1), 0);
        due("servicer(2, 2)", x.servicer(2, 2), 0);
    }

    @Says(in = "Promise 25", value = "UNKNOWN; BAD_VALUE.")
    static void theOrderOfTheErrorsOfServicer() {
        PeerNotes x = new PeerNotes();
        due("servicer(4, 3)", x.servicer(4, 3), UNKNOWN);
        due("servicer(-1, -1)", x.servicer(-1, -1), UNKNOWN);
    }

    @Says(in = "Promise 25", value = "1 for the coins that the servicer earned so far")
    static void whatAServicerEarned() {
        PeerNotes x = Markets.runningWith(3, 1000, 0, 10);
        x.pay(0, 24);
        due("servicer(3, 1) after 24 coins", x.servicer(3, 1), 0);
        x.pay(0, 25);
        due("servicer(3, 1) after 25 more", x.servicer(3, 1), 1);
        x.switchServicer(0, 2);
        x.pay(0, 25);
        due("servicer(3, 1) before the month", x.servicer(3, 1), 2);
        x.pass(1);
        x.pay(0, 50);
        due("servicer(3, 1): it stays", x.servicer(3, 1), 2);
        due("servicer(2, 1)", x.servicer(2, 1), 1);
        x.undo();
        due("servicer(2, 1) after undo()", x.servicer(2, 1), 0);
        x.pass(3);
        x.sell(0, 99999);
        due("servicer(2, 1): a sale has no fee", x.servicer(2, 1), 0);
    }

    @Says(in = "Promise 25", value = "2 for the loans that run and have this servicer")
    static void theLoansOfAServicer() {
        PeerNotes x = Markets.ofEachState();
        due("servicer(0, 2): only those that run", x.servicer(0, 2), 1);
        x.fund(0, 0, false, 700);
        due("servicer(0, 2)", x.servicer(0, 2), 2);
        x.switchServicer(1, 3);
        due("servicer(3, 2): it is only ordered", x.servicer(3, 2), 0);
        x.pass(1);
        due("servicer(3, 2)", x.servicer(3, 2), 1);
        due("servicer(0, 2)", x.servicer(0, 2), 1);
        x.sell(1, 0);
        due("servicer(3, 2): it is sold", x.servicer(3, 2), 0);
        PeerNotes all = Markets.withInvestors(1000);
        for (int i = 0; i < 10; i++) {
            all.openLoan(100, 0, 1);
            all.fund(0, i, false, 100);
        }
        due("servicer(0, 2) of ten", all.servicer(0, 2), 10);
    }

    // ---- 26

    @Says(in = "Promise 26", value = {"- `what`: 0 for the months since the beginning", "17 for the length of the text",
        "Returns the number;", "BAD_VALUE"})
    static void countFrom0To17() {
        PeerNotes x = new PeerNotes();
        int[] bad = {-1, 18, LEAST, MOST};
        for (int what : bad) {
            refused("count(" + what + ")", x, y -> y.count(what), BAD_VALUE);
        }
        x.type('q');
        x.pass(7);
        due("count(0)", x.count(0), 7);
        due("count(17)", x.count(17), 1);
    }

    @Says(in = "Promise 26",
        value = "0 for the months since the beginning, 1 for investors, 2 for loans, 3 to 7 for loans in the states 0 to 4")
    static void countOfLoansByState() {
        PeerNotes x = Markets.ofEachState();
        due("count(0)", x.count(0), 4);
        due("count(1)", x.count(1), 2);
        due("count(2)", x.count(2), 5);
        for (int what = 3; what <= 7; what++) {
            due("count(" + what + ")", x.count(what), 1);
        }
        x.giveUp(0);
        due("count(3)", x.count(3), 0);
        due("count(7)", x.count(7), 2);
        x.pay(1, x.toRepay(1));
        due("count(4)", x.count(4), 0);
        due("count(5)", x.count(5), 2);
        x.undo();
        x.sell(1, 0);
        due("count(4)", x.count(4), 0);
        due("count(6)", x.count(6), 2);
    }

    @Says(in = "Promise 26", value = {"8 for notes", "16 for the states in the history", "17 for the length of the text"})
    static void countToTheMost() {
        PeerNotes x = Markets.sixtyNotes();
        for (int i = 1; i < 8; i++) {
            x.addInvestor(i);
        }
        for (int i = 1; i < 10; i++) {
            x.openLoan(100, 0, 1);
        }
        for (int i = 0; i < 10; i++) {
            x.pass(24);
        }
        for (int i = 0; i < 60; i++) {
            x.type('0');
        }
        x.setPoolShare(50);
        int[] want = {240, 8, 10, 10, 0, 0, 0, 0, 60, 0, 50, 0, 0, 0, 0, 0, 4, 60};
        for (int what = 0; what <= 17; what++) {
            due("count(" + what + ")", x.count(what), want[what]);
        }
    }

    @Says(in = "Promise 26", value = "9 for the coins of the pool, 10 for its share")
    static void countOfThePool() {
        PeerNotes x = Markets.seniorAndJunior();
        x.pass(1);
        x.setPoolShare(50);
        x.pay(0, 50);
        due("count(9)", x.count(9), 25);
        due("count(10)", x.count(10), 50);
        x.pass(3);
        x.sell(0, 576);
        due("count(9): 24 were taken", x.count(9), 1);
        x.undo();
        due("count(9) after undo()", x.count(9), 25);
    }

    @Says(in = "Promise 26", value = "11 for the principals of all loans that run, 12 for all interest due, 13 for all losses, "
        + "14 for loans that run and are in arrears for 1 month or more")
    static void countOfWhatIsOwed() {
        PeerNotes x = Markets.ofEachState();
        due("count(11): what is funded does not count", x.count(11), 1000);
        due("count(12)", x.count(12), 40);
        due("count(13)", x.count(13), 300);
        due("count(14)", x.count(14), 1);
        x.fund(1, 0, true, 700);
        due("count(11)", x.count(11), 2000);
        due("count(14): in arrears for 0 months", x.count(14), 1);
        x.pass(1);
        due("count(12)", x.count(12), 60);
        due("count(14): in arrears for 0 months still", x.count(14), 1);
        x.pass(1);
        due("count(14)", x.count(14), 2);
        x.sell(1, 0);
        // The pool has 2 coins.
        due("count(11)", x.count(11), 1000);
        due("count(12)", x.count(12), 20);
        due("count(13)", x.count(13), 300 + 998);
        due("count(14)", x.count(14), 1);
    }

    @Says(in = "Promise 26", value = "15 for switches that are ordered")
    static void countOfSwitches() {
        PeerNotes x = Markets.withInvestors(1000);
        for (int i = 0; i < 10; i++) {
            x.openLoan(100, 0, 1);
            x.fund(0, i, false, 100);
        }
        for (int i = 0; i < 10; i++) {
            due("count(15)", x.count(15), i);
            x.switchServicer(i, 1 + i % 3);
        }
        due("count(15) of all", x.count(15), 10);
        x.switchServicer(0, 0);
        due("count(15): also the one that it has", x.count(15), 10);
        x.pay(0, 100);
        due("count(15): it is repaid", x.count(15), 9);
        x.pass(1);
        due("count(15): they are made", x.count(15), 0);
    }
}
