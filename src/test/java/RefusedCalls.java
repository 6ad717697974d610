import java.util.ArrayList;
import java.util.List;
import java.util.function.Consumer;
import java.util.function.Supplier;
import java.util.function.ToIntFunction;

/**
 * "A call that returns an error or NONE changes nothing": each such call is made on one of two markets that were made
 * alike, and whatever is called later must answer the same on both. The same for calls that only ask.
 */
public final class RefusedCalls extends Sentences {
    private record Call(String name, ToIntFunction<PeerNotes> method, int due) {
    }

    public static void main(String[] args) {
        run(RefusedCalls.class);
    }

    // ---- the calls that come later

    /** All that is told, in parts: an object is used for at most 512 calls, and a full market tells more. */
    private static List<Consumer<PeerNotes>> tellings(List<String> rows) {
        return List.of(
            x -> {
                Markets.tellCounts(x, rows);
                rows.add("count(16) answered " + x.count(16));
                rows.add("count(17) answered " + x.count(17));
                Markets.tellInvestors(x, rows);
            },
            x -> Markets.tellLoans(x, rows),
            x -> Markets.tellNotes(x, rows, 0, 30),
            x -> Markets.tellNotes(x, rows, 30, 60));
    }

    private static void undo(PeerNotes x, int times, List<String> rows) {
        for (int i = 0; i < times; i++) {
            rows.add("undo() answered " + x.undo());
        }
    }

    private static void actOn(PeerNotes x, List<String> rows) {
        rows.add("deposit(0, 1) answered " + x.deposit(0, 1));
        rows.add("setPoolShare(33) answered " + x.setPoolShare(33));
        for (int loan = 0; loan < 10; loan++) {
            rows.add("fund(1, " + loan + ", true, 3) answered " + x.fund(1, loan, true, 3));
            rows.add("switchServicer(" + loan + ", 3) answered " + x.switchServicer(loan, 3));
            rows.add("pay(" + loan + ", 55) answered " + x.pay(loan, 55));
        }
        rows.add("pass(3) answered " + x.pass(3));
        for (int loan = 0; loan < 10; loan++) {
            rows.add("toRepay(" + loan + ") answered " + x.toRepay(loan));
            rows.add("cure(" + loan + ", 7) answered " + x.cure(loan, 7));
            rows.add("sell(" + loan + ", 99) answered " + x.sell(loan, 99));
            rows.add("giveUp(" + loan + ") answered " + x.giveUp(loan));
        }
        rows.add("addInvestor(4) answered " + x.addInvestor(4));
        rows.add("openLoan(100, 1, 1) answered " + x.openLoan(100, 1, 1));
        rows.add("sellNote(0, 1, 2) answered " + x.sellNote(0, 1, 2));
    }

    private static List<Consumer<PeerNotes>> later(List<String> rows) {
        List<Consumer<PeerNotes>> all = new ArrayList<>();
        for (Consumer<PeerNotes> telling : tellings(rows)) {
            for (int undone = 0; undone <= 5; undone++) {
                int times = undone;
                all.add(x -> {
                    undo(x, times, rows);
                    telling.accept(x);
                });
            }
            all.add(x -> {
                rows.add("restore() answered " + x.restore());
                telling.accept(x);
                undo(x, 5, rows);
            });
            all.add(x -> {
                rows.add("readFundings() answered " + x.readFundings());
                telling.accept(x);
                rows.add("type('1') answered " + x.type('1'));
                rows.add("readFundings() answered " + x.readFundings());
                rows.add("clearText() answered " + x.clearText());
                undo(x, 5, rows);
            });
            all.add(x -> {
                actOn(x, rows);
                telling.accept(x);
                undo(x, 5, rows);
            });
            all.add(x -> {
                rows.add("keep() answered " + x.keep());
                undo(x, 2, rows);
                rows.add("restore() answered " + x.restore());
                telling.accept(x);
            });
        }
        return all;
    }

    private static void changesNothing(Supplier<PeerNotes> market, Call call) {
        List<String> got = new ArrayList<>();
        List<String> want = new ArrayList<>();
        List<Consumer<PeerNotes>> laterGot = later(got);
        List<Consumer<PeerNotes>> laterWant = later(want);
        for (int i = 0; i < laterGot.size(); i++) {
            PeerNotes x = market.get();
            due(call.name, call.method.applyAsInt(x), call.due);
            laterGot.get(i).accept(x);
            laterWant.get(i).accept(market.get());
        }
        same("after " + call.name, got, want);
    }

    private static void changeNothing(Supplier<PeerNotes> market, List<Call> calls) {
        for (Call call : calls) {
            changesNothing(market, call);
        }
    }

    // ---- a market in the midst of its life

    /**
     * Loan 0 runs, in arrears, with interest due, and an order; 1 is repaid, 2 sold, 3 given up, 4 in funding, and 5
     * runs, with nothing due. The history is full, there is a snapshot of another state, and a text whose third funding
     * is not possible.
     */
    private static PeerNotes busy() {
        PeerNotes x = Markets.withInvestors(5000, 5000, 300);
        int[][] loans = {{1000, 50, 10}, {500, 10, 5}, {400, 20, 4}, {300, 0, 3}, {2000, 30, 12}, {600, 10, 6}};
        for (int[] row : loans) {
            x.openLoan(row[0], row[1], row[2]);
        }
        x.fund(0, 0, false, 600);
        x.fund(1, 0, true, 400);
        x.fund(1, 1, false, 500);
        x.fund(0, 2, false, 300);
        x.fund(2, 2, true, 100);
        x.fund(2, 3, false, 50);
        x.fund(0, 4, true, 70);
        x.pass(5);
        x.pay(1, x.toRepay(1));
        x.sell(2, 250);
        x.giveUp(3);
        x.fund(1, 5, false, 600);
        x.keep();
        x.deposit(2, 9);
        x.switchServicer(0, 2);
        x.setPoolShare(20);
        x.pay(0, 77);
        Markets.write(x, "0>4s10;1>4j20;0>0s1");
        return x;
    }

    @Says(in = "ERRORS", value = "A call that returns an error or NONE changes nothing.")
    static void refusedCallsOfWho() {
        changeNothing(RefusedCalls::busy, List.of(
            new Call("addInvestor(-1)", x -> x.addInvestor(-1), BAD_VALUE),
            new Call("deposit(3, 1)", x -> x.deposit(3, 1), UNKNOWN),
            new Call("deposit(0, 0)", x -> x.deposit(0, 0), BAD_VALUE),
            new Call("deposit(0, MOST)", x -> x.deposit(0, MOST), FULL),
            new Call("setPoolShare(-1)", x -> x.setPoolShare(-1), BAD_VALUE),
            new Call("setPoolShare(51)", x -> x.setPoolShare(51), BAD_VALUE),
            new Call("setPoolShare(20)", x -> x.setPoolShare(20), NONE)));
    }

    @Says(in = "ERRORS", value = "A call that returns an error or NONE changes nothing.")
    static void refusedCallsOfLoansInFunding() {
        changeNothing(RefusedCalls::busy, List.of(
            new Call("openLoan(99, 10, 10)", x -> x.openLoan(99, 10, 10), BAD_VALUE),
            new Call("openLoan(1000, 51, 10)", x -> x.openLoan(1000, 51, 10), BAD_VALUE),
            new Call("openLoan(1000, 10, 37)", x -> x.openLoan(1000, 10, 37), BAD_VALUE),
            new Call("fund(3, 4, false, 1)", x -> x.fund(3, 4, false, 1), UNKNOWN),
            new Call("fund(0, 6, false, 1)", x -> x.fund(0, 6, false, 1), UNKNOWN),
            new Call("fund(0, 4, false, 0)", x -> x.fund(0, 4, false, 0), BAD_VALUE),
            new Call("fund(0, 4, false, 1931)", x -> x.fund(0, 4, false, 1931), NOT_POSSIBLE),
            new Call("fund(2, 4, true, 210)", x -> x.fund(2, 4, true, 210), NOT_POSSIBLE),
            new Call("fund(0, 5, true, 1)", x -> x.fund(0, 5, true, 1), NOT_POSSIBLE),
            new Call("giveUp(6)", x -> x.giveUp(6), UNKNOWN),
            new Call("giveUp(0)", x -> x.giveUp(0), NOT_POSSIBLE),
            new Call("giveUp(3)", x -> x.giveUp(3), NOT_POSSIBLE)));
    }

    @Says(in = "ERRORS", value = "A call that returns an error or NONE changes nothing.")
    static void refusedCallsOfLoansThatRun() {
        changeNothing(RefusedCalls::busy, List.of(
            new Call("pay(6, 1)", x -> x.pay(6, 1), UNKNOWN),
            new Call("pay(0, 0)", x -> x.pay(0, 0), BAD_VALUE),
            new Call("pay(0, 199999)", x -> x.pay(0, 199999), NOT_POSSIBLE),
            new Call("pay(4, 1)", x -> x.pay(4, 1), NOT_POSSIBLE),
            new Call("pay(1, 1)", x -> x.pay(1, 1), NOT_POSSIBLE),
            new Call("cure(6, 1)", x -> x.cure(6, 1), UNKNOWN),
            new Call("cure(0, 37)", x -> x.cure(0, 37), BAD_VALUE),
            new Call("cure(0, 5)", x -> x.cure(0, 5), NOT_POSSIBLE),
            new Call("cure(5, 5)", x -> x.cure(5, 5), NOT_POSSIBLE),
            new Call("sell(6, 0)", x -> x.sell(6, 0), UNKNOWN),
            new Call("sell(0, 100000)", x -> x.sell(0, 100000), BAD_VALUE),
            new Call("sell(5, 0)", x -> x.sell(5, 0), NOT_POSSIBLE),
            new Call("sell(4, 0)", x -> x.sell(4, 0), NOT_POSSIBLE),
            new Call("pass(0)", x -> x.pass(0), BAD_VALUE),
            new Call("pass(25)", x -> x.pass(25), BAD_VALUE)));
    }

    @Says(in = "ERRORS", value = "A call that returns an error or NONE changes nothing.")
    static void refusedSwitchesAndSalesOfNotes() {
        changeNothing(RefusedCalls::busy, List.of(
            new Call("switchServicer(6, 0)", x -> x.switchServicer(6, 0), UNKNOWN),
            new Call("switchServicer(0, 4)", x -> x.switchServicer(0, 4), UNKNOWN),
            new Call("switchServicer(1, 1)", x -> x.switchServicer(1, 1), NOT_POSSIBLE),
            new Call("switchServicer(0, 2)", x -> x.switchServicer(0, 2), NONE),
            new Call("switchServicer(5, 0)", x -> x.switchServicer(5, 0), NONE),
            new Call("sellNote(8, 0, 0)", x -> x.sellNote(8, 0, 0), UNKNOWN),
            new Call("sellNote(0, 3, 0)", x -> x.sellNote(0, 3, 0), UNKNOWN),
            new Call("sellNote(0, 1, -1)", x -> x.sellNote(0, 1, -1), BAD_VALUE),
            new Call("sellNote(0, 0, 5)", x -> x.sellNote(0, 0, 5), BAD_VALUE),
            new Call("sellNote(6, 1, 5)", x -> x.sellNote(6, 1, 5), NOT_POSSIBLE),
            new Call("sellNote(0, 2, 210)", x -> x.sellNote(0, 2, 210), NOT_POSSIBLE)));
    }

    @Says(in = "ERRORS", value = "A call that returns an error or NONE changes nothing.")
    static void refusedReadings() {
        changeNothing(RefusedCalls::busy, List.of(
            new Call("readFundings()", PeerNotes::readFundings, NOT_POSSIBLE)));
        String[] texts = {"", "0>4s10;1>4j20;", "0>4s10;1>4j20;3>4s1", "0>4s10;1>4j20;0>6s1", "0>4s10;0>4s1921",
            "2>4s9;2>4s201", "0>4s1930;0>4j1"};
        int[] wanted = {-100, -114, UNKNOWN, UNKNOWN, NOT_POSSIBLE, NOT_POSSIBLE, NOT_POSSIBLE};
        for (int i = 0; i < texts.length; i++) {
            String text = texts[i];
            Supplier<PeerNotes> market = () -> {
                PeerNotes x = busy();
                Markets.write(x, text);
                return x;
            };
            changesNothing(market, new Call("readFundings() of \"" + text + "\"", PeerNotes::readFundings, wanted[i]));
        }
    }

    @Says(in = "ERRORS", value = "A call that returns an error or NONE changes nothing.")
    static void refusedQuestions() {
        changeNothing(RefusedCalls::busy, List.of(
            new Call("investor(3, 0)", x -> x.investor(3, 0), UNKNOWN),
            new Call("investor(0, 6)", x -> x.investor(0, 6), BAD_VALUE),
            new Call("loan(6, 0)", x -> x.loan(6, 0), UNKNOWN),
            new Call("loan(0, 13)", x -> x.loan(0, 13), BAD_VALUE),
            new Call("loan(4, 3)", x -> x.loan(4, 3), NONE),
            new Call("loan(5, 8)", x -> x.loan(5, 8), NONE),
            new Call("note(8, 0)", x -> x.note(8, 0), UNKNOWN),
            new Call("note(0, 7)", x -> x.note(0, 7), BAD_VALUE),
            new Call("split(6, 1, 0)", x -> x.split(6, 1, 0), UNKNOWN),
            new Call("split(0, 0, 0)", x -> x.split(0, 0, 0), BAD_VALUE),
            new Call("split(0, 1, 6)", x -> x.split(0, 1, 6), BAD_VALUE),
            new Call("split(0, 199999, 0)", x -> x.split(0, 199999, 0), NOT_POSSIBLE),
            new Call("split(4, 1, 0)", x -> x.split(4, 1, 0), NOT_POSSIBLE),
            new Call("toRepay(6)", x -> x.toRepay(6), UNKNOWN),
            new Call("toRepay(4)", x -> x.toRepay(4), NOT_POSSIBLE),
            new Call("servicer(4, 0)", x -> x.servicer(4, 0), UNKNOWN),
            new Call("servicer(0, 3)", x -> x.servicer(0, 3), BAD_VALUE),
            new Call("count(18)", x -> x.count(18), BAD_VALUE)));
    }

    @Says(in = "Promise 23", value = "Tells how a payment would be split now.")
    static void questionsThatAreAnswered() {
        changeNothing(RefusedCalls::busy, List.of(
            new Call("investor(2, 0)", x -> x.investor(2, 0), 209),
            new Call("loan(4, 9)", x -> x.loan(4, 9), 1930),
            new Call("note(6, 4)", x -> x.note(6, 4), 70),
            new Call("split(0, 1000, 0)", x -> x.split(0, 1000, 0), 5),
            new Call("split(0, 1000, 5)", x -> x.split(0, 1000, 5), 222),
            new Call("toRepay(0)", x -> x.toRepay(0), 1178),
            new Call("servicer(0, 2)", x -> x.servicer(0, 2), 2),
            new Call("count(2)", x -> x.count(2), 6)));
    }

    // ---- a market without room for coins

    /**
     * Investor 0 has room for 99 coins, investor 1 for 49. Loan 0 runs (600 senior coins of investor 0, 400 junior ones
     * of 1), and can be sold; loan 1 is in funding, with 100 coins of investor 0 and 50 of 1. There is no snapshot.
     */
    private static PeerNotes rich() {
        PeerNotes x = Markets.withInvestors(1000, 1000);
        x.openLoan(1000, 50, 10);
        x.openLoan(500, 50, 10);
        x.fund(0, 0, false, 600);
        x.fund(1, 0, true, 400);
        x.fund(0, 1, false, 100);
        x.fund(1, 1, true, 50);
        x.pass(4);
        x.pay(0, 100);
        x.deposit(0, MOST - x.investor(0, 0) - 99);
        x.deposit(1, MOST - x.investor(1, 0) - 49);
        return x;
    }

    @Says(in = "ERRORS", value = "A call that returns an error or NONE changes nothing.")
    static void refusedCallsWithoutRoomForCoins() {
        changeNothing(RefusedCalls::rich, List.of(
            new Call("deposit(0, 100)", x -> x.deposit(0, 100), FULL),
            new Call("giveUp(1)", x -> x.giveUp(1), FULL),
            new Call("pay(0, 300)", x -> x.pay(0, 300), FULL),
            new Call("pay(0, 1105): too much for both", x -> x.pay(0, 1105), FULL),
            new Call("sell(0, 100)", x -> x.sell(0, 100), FULL),
            new Call("sell(0, 96): too much with what the pool gives", x -> x.sell(0, 96), FULL),
            new Call("sell(0, 99999)", x -> x.sell(0, 99999), FULL),
            new Call("sellNote(1, 0, 50)", x -> x.sellNote(1, 0, 50), FULL),
            new Call("sellNote(0, 1, 99999)", x -> x.sellNote(0, 1, 99999), FULL),
            new Call("restore()", PeerNotes::restore, NONE)));
    }

    // ---- a full market

    /** 8 investors, 10 loans, of which loan 0 is in funding, some notes, 240 months, and a text of 60 characters. */
    private static PeerNotes full(int notes) {
        PeerNotes x = new PeerNotes();
        for (int i = 0; i < 8; i++) {
            x.addInvestor(5000);
        }
        for (int i = 0; i < 10; i++) {
            x.openLoan(i == 0 ? 99999 : 300, 10, 10);
        }
        for (int i = 0; i < notes; i++) {
            x.fund(i % 8, i < 27 ? 1 + i / 3 : 0, i % 2 == 1, 100);
        }
        x.keep();
        for (int i = 0; i < 10; i++) {
            x.pass(24);
        }
        Markets.write(x, "0>0s1;1>0j2;2>0s3;3>0j4;4>0s5;5>0j6;6>0s7;7>0j8;0>0s9;1>0j10");
        return x;
    }

    @Says(in = "ERRORS", value = "A call that returns an error or NONE changes nothing.")
    static void refusedCallsOfAFullMarket() {
        changeNothing(() -> full(60), List.of(
            new Call("addInvestor(5)", x -> x.addInvestor(5), FULL),
            new Call("openLoan(100, 0, 1)", x -> x.openLoan(100, 0, 1), FULL),
            new Call("fund(0, 0, false, 1)", x -> x.fund(0, 0, false, 1), FULL),
            new Call("pass(1)", x -> x.pass(1), NOT_POSSIBLE),
            new Call("type('0')", x -> x.type('0'), FULL),
            new Call("readFundings()", PeerNotes::readFundings, FULL)));
        changesNothing(() -> full(51), new Call("readFundings() of ten", PeerNotes::readFundings, FULL));
        changesNothing(() -> full(59), new Call("readFundings() of ten", PeerNotes::readFundings, FULL));
    }

    // ---- without a history

    /** As busy(), but with nothing to undo. */
    private static PeerNotes undone() {
        PeerNotes x = busy();
        for (int i = 0; i < 4; i++) {
            x.undo();
        }
        return x;
    }

    @Says(in = "ERRORS", value = "A call that returns an error or NONE changes nothing.")
    static void refusedCallsWithoutAHistory() {
        changeNothing(RefusedCalls::undone, List.of(
            new Call("undo()", PeerNotes::undo, NONE),
            new Call("setPoolShare(5)", x -> x.setPoolShare(5), NONE),
            new Call("readFundings()", PeerNotes::readFundings, NOT_POSSIBLE),
            new Call("pay(0, 199999)", x -> x.pay(0, 199999), NOT_POSSIBLE)));
        changeNothing(PeerNotes::new, List.of(
            new Call("undo()", PeerNotes::undo, NONE),
            new Call("restore()", PeerNotes::restore, NONE),
            new Call("readFundings()", PeerNotes::readFundings, -100),
            new Call("setPoolShare(5)", x -> x.setPoolShare(5), NONE),
            new Call("deposit(0, 1)", x -> x.deposit(0, 1), UNKNOWN)));
    }
}
