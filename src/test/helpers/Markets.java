import java.util.ArrayList;
import java.util.List;

/** Markets to begin a test with, and all that is told of one. */
final class Markets {
    private Markets() {
    }

    static PeerNotes withInvestors(int... cash) {
        PeerNotes x = new PeerNotes();
        for (int coins : cash) {
            x.addInvestor(coins);
        }
        return x;
    }

    /** Investor 0 with 200000 coins, and loan 0, which runs: note 0, senior, has all of it. */
    static PeerNotes running(int amount, int rate, int months) {
        PeerNotes x = withInvestors(200000);
        x.openLoan(amount, rate, months);
        x.fund(0, 0, false, amount);
        return x;
    }

    /** As running(), with a servicer, after as many months as that needs. */
    static PeerNotes runningWith(int servicer, int amount, int rate, int months) {
        PeerNotes x = running(amount, rate, months);
        x.switchServicer(0, servicer);
        x.pass(1);
        return x;
    }

    /** Two investors of 10000; loan 0 of 1000 at 50 for 10 months runs: note 0 senior, 600, of 0; note 1 junior, 400, of 1. */
    static PeerNotes seniorAndJunior() {
        PeerNotes x = withInvestors(10000, 10000);
        x.openLoan(1000, 50, 10);
        x.fund(0, 0, false, 600);
        x.fund(1, 0, true, 400);
        return x;
    }

    /**
     * As many investors as notes, each of whom gives all that is his; loan 0 runs. A note below 0 is junior, with as
     * many coins.
     */
    static PeerNotes noteByNote(int rate, int months, int... notes) {
        PeerNotes x = new PeerNotes();
        int amount = 0;
        for (int note : notes) {
            x.addInvestor(Math.abs(note));
            amount += Math.abs(note);
        }
        x.openLoan(amount, rate, months);
        for (int i = 0; i < notes.length; i++) {
            x.fund(i, 0, notes[i] < 0, Math.abs(notes[i]));
        }
        return x;
    }

    /** A loan in each state, by its number: 0 in funding, 1 running and in arrears, 2 repaid, 3 sold, 4 given up. */
    static PeerNotes ofEachState() {
        PeerNotes x = withInvestors(10000, 10000);
        for (int i = 0; i < 5; i++) {
            x.openLoan(1000, 10, 10);
        }
        x.fund(0, 0, false, 300);
        x.fund(0, 1, false, 600);
        x.fund(1, 1, true, 400);
        x.fund(1, 2, false, 1000);
        x.fund(0, 3, true, 1000);
        x.fund(1, 4, true, 50);
        x.pass(4);
        x.pay(2, x.toRepay(2));
        x.sell(3, 700);
        x.giveUp(4);
        return x;
    }

    /** Loan 0 is in funding, and all 60 notes are there: one coin each, of investor 0, who has 1000 still. */
    static PeerNotes sixtyNotes() {
        PeerNotes x = withInvestors(1060);
        x.openLoan(5000, 10, 10);
        for (int i = 0; i < 60; i++) {
            x.fund(0, 0, i % 2 == 1, 1);
        }
        return x;
    }

    /** 240 months have passed. */
    static PeerNotes atTheLastMonth() {
        PeerNotes x = seniorAndJunior();
        for (int i = 0; i < 10; i++) {
            x.pass(24);
        }
        return x;
    }

    // ---- texts

    static void write(PeerNotes x, String text) {
        x.clearText();
        for (int i = 0; i < text.length(); i++) {
            x.type(text.charAt(i));
        }
    }

    static int read(PeerNotes x, String text) {
        write(x, text);
        return x.readFundings();
    }

    // ---- what is told

    /** All that is told but the states in the history and the text: for a market of a few notes, some 150 calls. */
    static List<String> told(PeerNotes x) {
        List<String> rows = new ArrayList<>();
        tellCounts(x, rows);
        tellInvestors(x, rows);
        tellLoans(x, rows);
        tellNotes(x, rows, 0, 60);
        return rows;
    }

    static void tellCounts(PeerNotes x, List<String> rows) {
        for (int what = 0; what <= 15; what++) {
            rows.add("count(" + what + ") answered " + x.count(what));
        }
        for (int servicer = 0; servicer < 4; servicer++) {
            rows.add("servicer(" + servicer + ", 1) answered " + x.servicer(servicer, 1));
            rows.add("servicer(" + servicer + ", 2) answered " + x.servicer(servicer, 2));
        }
    }

    static void tellInvestors(PeerNotes x, List<String> rows) {
        int investors = x.count(1);
        for (int i = 0; i < investors; i++) {
            for (int what = 0; what <= 5; what++) {
                rows.add("investor(" + i + ", " + what + ") answered " + x.investor(i, what));
            }
        }
    }

    static void tellLoans(PeerNotes x, List<String> rows) {
        int loans = x.count(2);
        for (int i = 0; i < loans; i++) {
            for (int what = 0; what <= 12; what++) {
                rows.add("loan(" + i + ", " + what + ") answered " + x.loan(i, what));
            }
        }
    }

    static void tellNotes(PeerNotes x, List<String> rows, int from, int to) {
        int notes = Math.min(to, x.count(8));
        for (int i = from; i < notes; i++) {
            for (int what = 0; what <= 6; what++) {
                rows.add("note(" + i + ", " + what + ") answered " + x.note(i, what));
            }
        }
    }

    static int[] investor(PeerNotes x, int investor) {
        int[] row = new int[6];
        for (int what = 0; what < row.length; what++) {
            row[what] = x.investor(investor, what);
        }
        return row;
    }

    static int[] loan(PeerNotes x, int loan) {
        int[] row = new int[13];
        for (int what = 0; what < row.length; what++) {
            row[what] = x.loan(loan, what);
        }
        return row;
    }

    static int[] note(PeerNotes x, int note) {
        int[] row = new int[7];
        for (int what = 0; what < row.length; what++) {
            row[what] = x.note(note, what);
        }
        return row;
    }

    static int[] split(PeerNotes x, int loan, int coins) {
        int[] row = new int[6];
        for (int what = 0; what < row.length; what++) {
            row[what] = x.split(loan, coins, what);
        }
        return row;
    }

    /** One thing told of each note, by number. */
    static int[] notes(PeerNotes x, int what) {
        int[] row = new int[x.count(8)];
        for (int i = 0; i < row.length; i++) {
            row[i] = x.note(i, what);
        }
        return row;
    }

    /** One thing told of each investor, by number. */
    static int[] investors(PeerNotes x, int what) {
        int[] row = new int[x.count(1)];
        for (int i = 0; i < row.length; i++) {
            row[i] = x.investor(i, what);
        }
        return row;
    }
}
