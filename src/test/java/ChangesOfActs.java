import java.util.ArrayList;
import java.util.LinkedHashMap;
import java.util.List;
import java.util.Map;
import java.util.function.Consumer;

/** What each act changes of all that is told, and that it changes nothing else. */
public final class ChangesOfActs extends Sentences {
    public static void main(String[] args) {
        run(ChangesOfActs.class);
    }

    /** A loan in each state; servicer 2 is ordered for loan 1, which runs. */
    private static PeerNotes market() {
        PeerNotes x = Markets.ofEachState();
        x.switchServicer(1, 2);
        return x;
    }

    private static void changes(String call, Consumer<PeerNotes> act, String want) {
        changes(call, market(), act, want);
    }

    private static void changes(String call, PeerNotes x, Consumer<PeerNotes> act, String want) {
        Map<String, String> before = byName(Markets.told(x));
        act.accept(x);
        List<String> wanted = want.lines().toList();
        same(call + " changes", differences(before, byName(Markets.told(x))), wanted);
    }

    /** "loan(1, 2) answered 1000" as "loan(1, 2)" and "1000". */
    private static Map<String, String> byName(List<String> rows) {
        Map<String, String> answers = new LinkedHashMap<>();
        for (String row : rows) {
            String[] parts = row.split(" answered ");
            answers.put(parts[0], parts[1]);
        }
        return answers;
    }

    /** "loan(1, 2): 1000, then 597", and "note(6: 0 0 1 5 5 0 0" for all rows of what was not there before. */
    private static List<String> differences(Map<String, String> before, Map<String, String> after) {
        List<String> rows = new ArrayList<>();
        after.forEach((name, answer) -> {
            String old = before.get(name);
            if (old == null) {
                addNew(rows, name.substring(0, name.indexOf(',')), answer);
            } else if (!old.equals(answer)) {
                rows.add(name + ": " + old + ", then " + answer);
            }
        });
        before.keySet().stream().filter(name -> !after.containsKey(name)).forEach(name -> rows.add(name + " is gone"));
        return rows;
    }

    private static void addNew(List<String> rows, String name, String answer) {
        int last = rows.size() - 1;
        if (last >= 0 && rows.get(last).startsWith(name + ":")) {
            rows.set(last, rows.get(last) + " " + answer);
        } else {
            rows.add(name + ": " + answer);
        }
    }

    // ---- who

    @Says(in = "Promise 2", value = "Adds an investor.")
    static void byAddInvestor() {
        changes("addInvestor(77)", x -> x.addInvestor(77), """
            count(1): 2, then 3
            investor(2: 77 0 0 0 0 0
            """);
    }

    @Says(in = "Promise 3", value = "Puts coins into the cash of an investor.")
    static void byDeposit() {
        changes("deposit(1, 5)", x -> x.deposit(1, 5), """
            investor(1, 0): 9638, then 9643
            """);
    }

    @Says(in = "Promise 4", value = "Sets the share of the pool.")
    static void bySetPoolShare() {
        changes("setPoolShare(9)", x -> x.setPoolShare(9), """
            count(10): 5, then 9
            """);
    }

    // ---- loans

    @Says(in = "Promise 5", value = "Opens a loan for funding.")
    static void byOpenLoan() {
        changes("openLoan(500, 1, 2)", x -> x.openLoan(500, 1, 2), """
            count(2): 5, then 6
            count(3): 1, then 2
            loan(5: 0 500 0 -5 0 0 0 0 -5 500 0 0 0
            """);
    }

    @Says(in = "Promise 6", value = "Funds a part of a loan: a note.")
    static void byFund() {
        changes("fund(0, 0, true, 5)", x -> x.fund(0, 0, true, 5), """
            count(8): 6, then 7
            investor(0, 0): 8800, then 8795
            investor(0, 1): 900, then 905
            investor(0, 2): 2, then 3
            loan(0, 9): 700, then 695
            loan(0, 10): 1, then 2
            loan(0, 12): 0, then 5
            note(6: 0 0 1 5 5 0 0
            """);
    }

    @Says(in = "LOANS AND NOTES", value = "As soon as the notes of a loan have its amount together, it runs")
    static void byFundSoThatItRuns() {
        changes("fund(0, 0, false, 700)", x -> x.fund(0, 0, false, 700), """
            count(3): 1, then 0
            count(4): 1, then 2
            count(8): 6, then 7
            count(11): 1000, then 2000
            servicer(0, 2): 1, then 2
            investor(0, 0): 8800, then 8100
            investor(0, 1): 900, then 1600
            investor(0, 2): 2, then 3
            loan(0, 0): 0, then 1
            loan(0, 2): 0, then 1000
            loan(0, 3): -5, then 100
            loan(0, 9): 700, then 0
            loan(0, 10): 1, then 2
            loan(0, 11): 300, then 1000
            note(6: 0 0 0 700 700 0 0
            """);
    }

    @Says(in = "Promise 7", value = "Gives up a loan that is in funding")
    static void byGiveUp() {
        changes("giveUp(0)", x -> x.giveUp(0), """
            count(3): 1, then 0
            count(7): 1, then 2
            investor(0, 0): 8800, then 9100
            investor(0, 1): 900, then 600
            investor(0, 2): 2, then 1
            investor(0, 3): 3, then 2
            loan(0, 0): 0, then 4
            loan(0, 9): 700, then 0
            loan(0, 11): 300, then 0
            note(0, 3): 300, then 0
            """);
    }

    @Says(in = "Promise 8", value = "Pays for a loan.")
    static void byPay() {
        // The fee is 2, the interest 40, 2 of it for the pool; 38 by 600 and 400 are 22.8 and 15.2.
        changes("pay(1, 445)", x -> x.pay(1, 445), """
            count(9): 2, then 4
            count(11): 1000, then 597
            count(12): 40, then 0
            count(14): 1, then 0
            servicer(0, 1): 5, then 7
            investor(0, 0): 8800, then 9226
            investor(0, 1): 900, then 497
            investor(0, 4): 0, then 23
            investor(1, 0): 9638, then 9653
            investor(1, 4): 38, then 53
            loan(1, 2): 1000, then 597
            loan(1, 4): 40, then 0
            loan(1, 5): 400, then 0
            loan(1, 6): 3, then 0
            loan(1, 11): 600, then 197
            note(1, 3): 600, then 197
            note(1, 5): 0, then 23
            note(2, 5): 0, then 15
            """);
        changes("pay(1, 20), a part of the interest", x -> x.pay(1, 20), """
            count(9): 2, then 3
            count(12): 40, then 20
            investor(0, 0): 8800, then 8812
            investor(0, 4): 0, then 12
            investor(1, 0): 9638, then 9645
            investor(1, 4): 38, then 45
            loan(1, 4): 40, then 20
            note(1, 5): 0, then 12
            note(2, 5): 0, then 7
            """);
    }

    @Says(in = "A PAYMENT", value = "If its principal is 0 and no interest is due, it is repaid.")
    static void byPaySoThatItIsRepaid() {
        changes("pay(1, 1045)", x -> x.pay(1, 1045), """
            count(4): 1, then 0
            count(5): 1, then 2
            count(9): 2, then 4
            count(11): 1000, then 0
            count(12): 40, then 0
            count(14): 1, then 0
            count(15): 1, then 0
            servicer(0, 1): 5, then 10
            servicer(0, 2): 1, then 0
            investor(0, 0): 8800, then 9423
            investor(0, 1): 900, then 300
            investor(0, 2): 2, then 1
            investor(0, 3): 3, then 1
            investor(0, 4): 0, then 23
            investor(1, 0): 9638, then 10053
            investor(1, 1): 400, then 0
            investor(1, 2): 1, then 0
            investor(1, 3): 2, then 0
            investor(1, 4): 38, then 53
            loan(1, 0): 1, then 2
            loan(1, 2): 1000, then 0
            loan(1, 4): 40, then 0
            loan(1, 5): 400, then 0
            loan(1, 6): 3, then 0
            loan(1, 8): 2, then -5
            loan(1, 11): 600, then 0
            loan(1, 12): 400, then 0
            note(1, 3): 600, then 0
            note(1, 5): 0, then 23
            note(2, 3): 400, then 0
            note(2, 5): 0, then 15
            """);
    }

    @Says(in = "Promise 9", value = "Cures the arrears of a loan")
    static void byCure() {
        PeerNotes x = market();
        x.pay(1, 40);
        changes("cure(1, 7)", x, y -> y.cure(1, 7), """
            count(14): 1, then 0
            loan(1, 3): 100, then 143
            loan(1, 5): 400, then 0
            loan(1, 6): 3, then 0
            """);
    }

    @Says(in = "Promise 10", value = "Sells a loan.")
    static void bySell() {
        changes("sell(1, 650)", x -> x.sell(1, 650), """
            count(4): 1, then 0
            count(6): 1, then 2
            count(11): 1000, then 0
            count(12): 40, then 0
            count(13): 300, then 650
            count(14): 1, then 0
            count(15): 1, then 0
            servicer(0, 2): 1, then 0
            investor(0, 0): 8800, then 9400
            investor(0, 1): 900, then 300
            investor(0, 2): 2, then 1
            investor(0, 3): 3, then 1
            investor(1, 0): 9638, then 9688
            investor(1, 1): 400, then 0
            investor(1, 2): 1, then 0
            investor(1, 3): 2, then 0
            investor(1, 5): 0, then 350
            loan(1, 0): 1, then 3
            loan(1, 2): 1000, then 0
            loan(1, 4): 40, then 0
            loan(1, 5): 400, then 0
            loan(1, 6): 3, then 0
            loan(1, 8): 2, then -5
            loan(1, 11): 600, then 0
            loan(1, 12): 400, then 0
            note(1, 3): 600, then 0
            note(2, 3): 400, then 0
            note(2, 6): 0, then 350
            """);
    }

    @Says(in = "SALE", value = "Then what the senior notes lack of their principals together is taken from the pool")
    static void bySellWithThePool() {
        changes("sell(1, 590)", x -> x.sell(1, 590), """
            count(4): 1, then 0
            count(6): 1, then 2
            count(9): 2, then 0
            count(11): 1000, then 0
            count(12): 40, then 0
            count(13): 300, then 708
            count(14): 1, then 0
            count(15): 1, then 0
            servicer(0, 2): 1, then 0
            investor(0, 0): 8800, then 9392
            investor(0, 1): 900, then 300
            investor(0, 2): 2, then 1
            investor(0, 3): 3, then 1
            investor(0, 5): 300, then 308
            investor(1, 1): 400, then 0
            investor(1, 2): 1, then 0
            investor(1, 3): 2, then 0
            investor(1, 5): 0, then 400
            loan(1, 0): 1, then 3
            loan(1, 2): 1000, then 0
            loan(1, 4): 40, then 0
            loan(1, 5): 400, then 0
            loan(1, 6): 3, then 0
            loan(1, 8): 2, then -5
            loan(1, 11): 600, then 0
            loan(1, 12): 400, then 0
            note(1, 3): 600, then 0
            note(1, 6): 0, then 8
            note(2, 3): 400, then 0
            note(2, 6): 0, then 400
            """);
    }

    @Says(in = "Promise 11", value = "Orders that a loan gets another servicer with the next month")
    static void bySwitchServicer() {
        changes("switchServicer(1, 3)", x -> x.switchServicer(1, 3), """
            loan(1, 8): 2, then 3
            """);
        changes("switchServicer(1, 0)", x -> x.switchServicer(1, 0), """
            loan(1, 8): 2, then 0
            """);
        changes("switchServicer(1, 1), the first order", Markets.ofEachState(), x -> x.switchServicer(1, 1), """
            count(15): 0, then 1
            loan(1, 8): -5, then 1
            """);
    }

    @Says(in = "Promise 12", value = "Sells a note to another investor, who pays the price from cash.")
    static void bySellNote() {
        changes("sellNote(1, 1, 100)", x -> x.sellNote(1, 1, 100), """
            investor(0, 0): 8800, then 8900
            investor(0, 1): 900, then 300
            investor(0, 2): 2, then 1
            investor(0, 3): 3, then 1
            investor(1, 0): 9638, then 9538
            investor(1, 1): 400, then 1000
            investor(1, 2): 1, then 2
            note(1, 0): 0, then 1
            """);
    }

    @Says(in = "Promise 13", value = "Lets months pass, one after the other.")
    static void byPass() {
        changes("pass(2)", x -> x.pass(2), """
            count(0): 4, then 6
            count(12): 40, then 60
            count(15): 1, then 0
            servicer(0, 2): 1, then 0
            servicer(2, 2): 0, then 1
            loan(1, 4): 40, then 60
            loan(1, 5): 400, then 600
            loan(1, 6): 3, then 5
            loan(1, 7): 0, then 2
            loan(1, 8): 2, then -5
            """);
    }

    // ---- texts and history

    @Says(in = "Promise 16", value = "Makes the fundings of the text")
    static void byReadFundings() {
        PeerNotes x = market();
        Markets.write(x, "0>0s5;1>0j6");
        changes("readFundings()", x, PeerNotes::readFundings, """
            count(8): 6, then 8
            investor(0, 0): 8800, then 8795
            investor(0, 1): 900, then 905
            investor(0, 2): 2, then 3
            investor(1, 0): 9638, then 9632
            investor(1, 1): 400, then 406
            investor(1, 2): 1, then 2
            investor(1, 3): 2, then 3
            loan(0, 9): 700, then 689
            loan(0, 10): 1, then 3
            loan(0, 11): 300, then 305
            loan(0, 12): 0, then 6
            note(6: 0 0 0 5 5 0 0
            note(7: 1 0 1 6 6 0 0
            """);
    }

    @Says(in = "HISTORY", value = "A state is everything but the text, the history and the snapshot.")
    static void nothingByTheTextAndTheSnapshot() {
        changes("type, clearText() and keep()", x -> {
            x.type('0');
            x.clearText();
            x.type('1');
            x.keep();
        }, "");
    }

    @Says(in = "Promise 23", value = "Tells how a payment would be split now.")
    static void nothingByAsking() {
        changes("what is told", x -> {
            x.split(1, 445, 0);
            x.split(1, 445, 5);
            x.toRepay(1);
            x.investor(0, 1);
            x.loan(1, 11);
            x.note(1, 3);
            x.servicer(0, 2);
            x.count(11);
        }, "");
    }

    @Says(in = "Promise 17", value = "Removes and restores the latest state of the history.")
    static void byUndo() {
        changes("undo() of the order", PeerNotes::undo, """
            count(15): 1, then 0
            loan(1, 8): 2, then -5
            """);
    }

    @Says(in = "Promise 19", value = "Restores the state of the snapshot, which stays.")
    static void byRestore() {
        PeerNotes x = market();
        x.keep();
        x.setPoolShare(7);
        x.deposit(0, 100);
        changes("restore()", x, PeerNotes::restore, """
            count(10): 7, then 5
            investor(0, 0): 8900, then 8800
            """);
    }
}
