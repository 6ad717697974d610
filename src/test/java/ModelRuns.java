import java.math.BigInteger;
import java.util.ArrayDeque;
import java.util.ArrayList;
import java.util.Arrays;
import java.util.Deque;
import java.util.List;
import java.util.function.ToIntFunction;
import java.util.regex.Pattern;

/**
 * Runs of at most 512 calls on a PeerNotes and on a model that is written in another way: states are copied whole, acts
 * are tried on a copy, texts are read by a regular expression, toRepay looks for the coins one by one. The runs come
 * from a fixed row of numbers, so they are the same each time.
 */
public final class ModelRuns {
    private static final int RUNS = 6000;
    private static final int CALLS = 512;
    private static final int MOST = Integer.MAX_VALUE;

    private static int wrong = 0;

    public static void main(String[] args) {
        Tally tally = new Tally();
        for (int run = 0; run < RUNS && wrong < 5; run++) {
            new Run(run, tally).go();
        }
        if (wrong == 0) {
            tally.lookForGaps();
        }
        System.out.println(wrong == 0 ? "all answers are as the model's" : wrong + " runs went wrong");
        if (wrong != 0) {
            System.exit(1);
        }
    }

    /** Which kinds of answers each method gave: a run of calls that never comes to an error tests nothing of it. */
    private static final class Tally {
        final List<String> seen = new ArrayList<>();

        void add(String method, int answer) {
            String kind = method + " " + (answer <= -100 ? -100 : Math.min(answer, 0));
            if (!seen.contains(kind)) {
                seen.add(kind);
            }
        }

        void lookForGaps() {
            String[] kinds = {"addInvestor 0 -2 -3", "deposit 0 -1 -2 -3", "setPoolShare 0 -2 -5",
                "openLoan 0 -2 -3", "fund 0 -1 -2 -3 -4", "giveUp 0 -1 -3 -4", "pay 0 -1 -2 -3 -4",
                "cure 0 -1 -2 -4", "sell 0 -1 -2 -3 -4", "switchServicer 0 -1 -4 -5", "sellNote 0 -1 -2 -3 -4",
                "pass 0 -2 -4", "type 0 -3", "clearText 0", "readFundings 0 -1 -3 -4 -100", "undo 0 -5", "keep 0",
                "restore 0 -5", "investor 0 -1 -2", "loan 0 -1 -2 -5", "note 0 -1 -2", "split 0 -1 -2 -4",
                "toRepay 0 -1 -4", "servicer 0 -1 -2", "count 0 -2"};
            for (String row : kinds) {
                String[] parts = row.split(" ");
                for (int i = 1; i < parts.length; i++) {
                    if (!seen.contains(parts[0] + " " + parts[i])) {
                        wrong++;
                        System.out.println("no run came to an answer of the kind " + parts[0] + " " + parts[i]);
                    }
                }
            }
        }
    }

    private static final class Run {
        final int number;
        final Tally tally;
        final PeerNotes real = new PeerNotes();
        final Model model = new Model();
        final List<String> calls = new ArrayList<>();
        long seed;
        final int biggest;
        final boolean rich;
        final boolean manyNotes;
        final boolean manyMonths;
        boolean failed = false;

        Run(int number, Tally tally) {
            this.number = number;
            this.tally = tally;
            seed = 77777L * (number + 1);
            int[] sizes = {130, 400, 3000, 99999};
            biggest = sizes[number % sizes.length];
            rich = number % 3 == 0;
            manyNotes = number % 5 == 1;
            manyMonths = number % 5 == 2;
        }

        int below(int bound) {
            seed = seed * 6364136223846793005L + 1442695040888963407L;
            return (int) ((seed >>> 33) % bound);
        }

        int from(int low, int high) {
            return low + below(high - low + 1);
        }

        int oneOf(int... values) {
            return values[below(values.length)];
        }

        boolean chance(int percent) {
            return below(100) < percent;
        }

        void go() {
            // One round makes up to two calls, and a text that is typed ends before the last call.
            while (calls.size() < CALLS - 2 && !failed) {
                if (chance(30)) {
                    ask();
                } else if (manyNotes && chance(40)) {
                    fund();
                } else if (manyMonths && chance(15)) {
                    check("pass", "24", real.pass(24), model.pass(24));
                } else {
                    act();
                }
            }
            if (failed) {
                wrong++;
                System.out.println("run " + number + ": the last of these " + calls.size() + " calls went wrong");
                int from = Math.max(0, calls.size() - 400);
                for (String call : calls.subList(from, calls.size())) {
                    System.out.println("  " + call);
                }
            }
        }

        void check(String method, String arguments, int got, int want) {
            calls.add(method + "(" + arguments + ") answered " + got + (got == want ? "" : ", the model: " + want));
            tally.add(method, want);
            if (got != want) {
                failed = true;
            }
        }

        int anInvestor() {
            return chance(4) ? oneOf(-1, 8, model.now.investors.size(), MOST, -MOST)
                : below(Math.max(1, model.now.investors.size()));
        }

        int aLoan() {
            return chance(4) ? oneOf(-1, 10, model.now.loans.size(), MOST, -MOST - 1)
                : below(Math.max(1, model.now.loans.size()));
        }

        int aNote() {
            return chance(4) ? oneOf(-1, 60, model.now.notes.size(), MOST)
                : below(Math.max(1, model.now.notes.size()));
        }

        void act() {
            int kind = below(100);
            if (kind < 4) {
                int cash = chance(10) ? oneOf(-1, 0, -MOST - 1, MOST) : below(3 * biggest);
                check("addInvestor", "" + cash, real.addInvestor(cash), model.addInvestor(cash));
            } else if (kind < 9) {
                deposit();
            } else if (kind < 11) {
                int percent = oneOf(-1, 0, 5, 20, 50, 51, below(51));
                check("setPoolShare", "" + percent, real.setPoolShare(percent), model.setPoolShare(percent));
            } else if (kind < 16) {
                openLoan();
            } else if (kind < 36) {
                fund();
            } else if (kind < 37) {
                int loan = aLoan();
                check("giveUp", "" + loan, real.giveUp(loan), model.giveUp(loan));
            } else if (kind < 52) {
                pay();
            } else if (kind < 55) {
                cure();
            } else if (kind < 59) {
                int loan = aLoan();
                int price = oneOf(-1, 0, 100000, 99999, below(biggest), below(biggest), below(biggest / 4));
                check("sell", loan + ", " + price, real.sell(loan, price), model.sell(loan, price));
            } else if (kind < 64) {
                int loan = aLoan();
                int servicer = chance(5) ? oneOf(-1, 4, -5) : below(4);
                check("switchServicer", loan + ", " + servicer, real.switchServicer(loan, servicer),
                    model.switchServicer(loan, servicer));
            } else if (kind < 70) {
                int note = aNote();
                int buyer = anInvestor();
                int price = oneOf(-1, 0, 1, 99999, 100000, below(biggest), below(biggest));
                check("sellNote", note + ", " + buyer + ", " + price, real.sellNote(note, buyer, price),
                    model.sellNote(note, buyer, price));
            } else if (kind < 78) {
                int months = chance(8) ? oneOf(0, 25, -1, 24) : from(1, 4);
                check("pass", "" + months, real.pass(months), model.pass(months));
            } else if (kind < 88) {
                texts();
            } else {
                history();
            }
        }

        void deposit() {
            int investor = anInvestor();
            int coins = chance(20) ? oneOf(0, -1, MOST, 1) : 1 + below(biggest);
            if (rich && chance(40) && investor >= 0 && investor < model.now.investors.size()) {
                coins = MOST - model.now.investors.get(investor).cash - below(biggest / 8);
            }
            check("deposit", investor + ", " + coins, real.deposit(investor, coins), model.deposit(investor, coins));
        }

        void openLoan() {
            int amount = chance(10) ? oneOf(99, 100, 99999, 100000) : from(100, biggest);
            int rate = chance(10) ? oneOf(-1, 0, 50, 51) : below(51);
            int months = chance(10) ? oneOf(0, 1, 36, 37) : from(1, oneOf(4, 36));
            check("openLoan", amount + ", " + rate + ", " + months, real.openLoan(amount, rate, months),
                model.openLoan(amount, rate, months));
        }

        void fund() {
            int investor = anInvestor();
            int loan = aLoan();
            boolean junior = chance(45);
            int coins = 1 + below(chance(70) ? biggest / 3 : biggest);
            if (manyNotes) {
                coins = from(1, 5);
            } else if (chance(25) && loan >= 0 && loan < model.now.loans.size()) {
                coins = model.now.missing(loan) + below(20) / 19;
            } else if (chance(5)) {
                coins = oneOf(0, -1, 99999, 100000);
            } else if (chance(30)) {
                coins = from(1, 9);
            }
            check("fund", investor + ", " + loan + ", " + junior + ", " + coins,
                real.fund(investor, loan, junior, coins), model.fund(investor, loan, junior, coins));
        }

        int someCoins(int loan) {
            if (chance(5)) {
                return oneOf(0, 1, 199999, 200000, -1);
            }
            if (chance(60) && loan >= 0 && loan < model.now.loans.size()) {
                Model.Loan row = model.now.loans.get(loan);
                int base = oneOf(row.interestDue, row.interestDue + row.principalDue, row.interestDue + row.principal,
                    model.toRepay(loan));
                return base + oneOf(-2, -1, 0, 0, 0, 0, 1, 2);
            }
            return 1 + below(chance(50) ? biggest : Math.max(2, biggest / 8));
        }

        void pay() {
            int loan = aLoan();
            int coins = someCoins(loan);
            check("pay", loan + ", " + coins, real.pay(loan, coins), model.pay(loan, coins));
        }

        void cure() {
            int loan = aLoan();
            if (chance(70) && loan >= 0 && loan < model.now.loans.size()) {
                int coins = model.now.loans.get(loan).interestDue;
                check("pay", loan + ", " + coins, real.pay(loan, coins), model.pay(loan, coins));
            }
            int months = chance(10) ? oneOf(0, 37, -1, 36) : from(1, 36);
            check("cure", loan + ", " + months, real.cure(loan, months), model.cure(loan, months));
        }

        void texts() {
            int kind = below(10);
            if (kind < 2) {
                check("clearText", "", real.clearText(), model.clearText());
            } else if (kind < 5) {
                type(anySign());
            } else if (kind < 9) {
                if (chance(80)) {
                    check("clearText", "", real.clearText(), model.clearText());
                }
                int fundings = from(1, chance(10) ? 10 : 3);
                for (int i = 0; i < fundings; i++) {
                    typeAll((i == 0 ? "" : ";") + aFunding());
                }
                check("readFundings", "", real.readFundings(), model.readFundings());
            } else {
                check("readFundings", "", real.readFundings(), model.readFundings());
            }
        }

        String aFunding() {
            int loan = below(Math.max(1, model.now.loans.size()));
            for (int i = 0; i < 5 && model.now.missing(loan) == 0; i++) {
                loan = below(Math.max(1, model.now.loans.size()));
            }
            int investor = chance(3) ? 9 : below(Math.max(1, model.now.investors.size()));
            int coins = 1 + below(oneOf(9, 9, 9, 99, biggest));
            return investor + ">" + loan + (chance(50) ? "s" : "j") + coins;
        }

        void typeAll(String text) {
            for (int i = 0; i < text.length() && calls.size() < CALLS - 1; i++) {
                type(chance(1) ? anySign() : text.charAt(i));
            }
        }

        char anySign() {
            return chance(10) ? (char) below(65536) : "0123456789>sj;:/ S".charAt(below(18));
        }

        void type(char sign) {
            check("type", "(char) " + (int) sign, real.type(sign), model.type(sign));
        }

        void history() {
            int kind = below(12);
            if ((manyNotes || manyMonths) && chance(70)) {
                check("count", "16", real.count(16), model.count(16));
            } else if (kind < 7) {
                check("undo", "", real.undo(), model.undo());
            } else if (kind < 10) {
                check("keep", "", real.keep(), model.keep());
            } else {
                check("restore", "", real.restore(), model.restore());
            }
        }

        void ask() {
            int kind = below(20);
            if (kind < 3) {
                int investor = anInvestor();
                int what = from(-1, 6);
                check("investor", investor + ", " + what, real.investor(investor, what),
                    model.investor(investor, what));
            } else if (kind < 8) {
                int loan = aLoan();
                int what = from(-1, 13);
                check("loan", loan + ", " + what, real.loan(loan, what), model.loan(loan, what));
            } else if (kind < 11) {
                int note = aNote();
                int what = from(-1, 7);
                check("note", note + ", " + what, real.note(note, what), model.note(note, what));
            } else if (kind < 14) {
                int loan = aLoan();
                int coins = someCoins(loan);
                int what = from(chance(90) ? 0 : -1, chance(90) ? 5 : 6);
                check("split", loan + ", " + coins + ", " + what, real.split(loan, coins, what),
                    model.split(loan, coins, what));
            } else if (kind < 15) {
                int loan = aLoan();
                check("toRepay", "" + loan, real.toRepay(loan), model.toRepay(loan));
            } else if (kind < 16) {
                int servicer = from(-1, 4);
                int what = from(-1, 3);
                check("servicer", servicer + ", " + what, real.servicer(servicer, what),
                    model.servicer(servicer, what));
            } else {
                int what = from(-1, 18);
                check("count", "" + what, real.count(what), model.count(what));
            }
        }
    }

    /** What the document says, in another way than the class does it. */
    private static final class Model {
        static final int[] FEES = {5, 10, 20, 40};
        static final Pattern TEXT = Pattern.compile("[0-9]>[0-9][sj][1-9][0-9]{0,4}(;[0-9]>[0-9][sj][1-9][0-9]{0,4})*");

        State now = new State();
        State kept = null;
        final Deque<State> history = new ArrayDeque<>();
        String text = "";

        static final class Investor {
            int cash;
            int interest;
            int losses;
        }

        static final class Loan {
            int amount;
            int rate;
            int months;
            int state;
            int principal;
            int instalment = -5;
            int interestDue;
            int principalDue;
            int arrears;
            int servicer;
            int ordered = -5;
        }

        static final class Note {
            int investor;
            int loan;
            boolean junior;
            int principal;
            int funded;
            int interest;
            int loss;
        }

        static final class State {
            List<Investor> investors = new ArrayList<>();
            List<Loan> loans = new ArrayList<>();
            List<Note> notes = new ArrayList<>();
            int[] earned = new int[4];
            int pool;
            int share = 5;
            int months;

            State copy() {
                State other = new State();
                for (Investor row : investors) {
                    Investor twin = new Investor();
                    twin.cash = row.cash;
                    twin.interest = row.interest;
                    twin.losses = row.losses;
                    other.investors.add(twin);
                }
                for (Loan row : loans) {
                    Loan twin = new Loan();
                    twin.amount = row.amount;
                    twin.rate = row.rate;
                    twin.months = row.months;
                    twin.state = row.state;
                    twin.principal = row.principal;
                    twin.instalment = row.instalment;
                    twin.interestDue = row.interestDue;
                    twin.principalDue = row.principalDue;
                    twin.arrears = row.arrears;
                    twin.servicer = row.servicer;
                    twin.ordered = row.ordered;
                    other.loans.add(twin);
                }
                for (Note row : notes) {
                    Note twin = new Note();
                    twin.investor = row.investor;
                    twin.loan = row.loan;
                    twin.junior = row.junior;
                    twin.principal = row.principal;
                    twin.funded = row.funded;
                    twin.interest = row.interest;
                    twin.loss = row.loss;
                    other.notes.add(twin);
                }
                other.earned = earned.clone();
                other.pool = pool;
                other.share = share;
                other.months = months;
                return other;
            }

            List<Note> of(int loan, String classes) {
                List<Note> found = new ArrayList<>();
                for (Note note : notes) {
                    if (note.loan == loan && classes.indexOf(note.junior ? 'j' : 's') >= 0) {
                        found.add(note);
                    }
                }
                return found;
            }

            int missing(int loan) {
                if (loan >= loans.size() || loans.get(loan).state != 0) {
                    return 0;
                }
                return loans.get(loan).amount - sum(of(loan, "sj"), note -> note.principal);
            }

            /** Pays by weights to the cash of the investors, one note after the other; false if a cash has no room. */
            boolean payOut(int coins, List<Note> to, int[] weights, boolean asInterest) {
                int[] parts = shared(coins, weights);
                for (int i = 0; i < parts.length; i++) {
                    Note note = to.get(i);
                    Investor investor = investors.get(note.investor);
                    if ((long) investor.cash + parts[i] > MOST) {
                        return false;
                    }
                    investor.cash += parts[i];
                    if (asInterest) {
                        note.interest += parts[i];
                        investor.interest += parts[i];
                    } else {
                        note.principal -= parts[i];
                    }
                }
                return true;
            }

            boolean payPrincipal(int loan, int toSeniors, int toJuniors) {
                List<Note> seniors = of(loan, "s");
                List<Note> juniors = of(loan, "j");
                return payOut(toSeniors, seniors, principals(seniors), false)
                    && payOut(toJuniors, juniors, principals(juniors), false);
            }
        }

        static <T> int sum(List<T> rows, ToIntFunction<T> what) {
            return rows.stream().mapToInt(what).sum();
        }

        static int[] principals(List<Note> notes) {
            return notes.stream().mapToInt(note -> note.principal).toArray();
        }

        static int[] shared(int coins, int[] weights) {
            BigInteger all = BigInteger.valueOf(Arrays.stream(weights).asLongStream().sum());
            int[] parts = new int[weights.length];
            if (all.signum() == 0) {
                if (coins != 0) {
                    throw new IllegalStateException("coins without weights");
                }
                return parts;
            }
            for (int i = 0; i < parts.length; i++) {
                parts[i] = BigInteger.valueOf(coins).multiply(BigInteger.valueOf(weights[i])).divide(all).intValue();
            }
            int next = 0;
            while (Arrays.stream(parts).sum() < coins) {
                if (weights[next] != 0) {
                    parts[next]++;
                }
                next = (next + 1) % parts.length;
            }
            return parts;
        }

        static int up(int a, int b) {
            return (int) Math.ceil((double) a / b);
        }

        static boolean within(int value, int low, int high) {
            return low <= value && value <= high;
        }

        boolean noInvestor(int investor) {
            return !within(investor, 0, now.investors.size() - 1);
        }

        boolean noLoan(int loan) {
            return !within(loan, 0, now.loans.size() - 1);
        }

        boolean isIn(int loan, int state) {
            return now.loans.get(loan).state == state;
        }

        /** Makes the tried state the present one, and keeps the one that was. */
        void become(State next) {
            history.addLast(now);
            if (history.size() > 4) {
                history.removeFirst();
            }
            now = next;
        }

        int addInvestor(int cash) {
            if (cash < 0) {
                return -2;
            }
            if (now.investors.size() == 8) {
                return -3;
            }
            State next = now.copy();
            Investor row = new Investor();
            row.cash = cash;
            next.investors.add(row);
            become(next);
            return next.investors.size() - 1;
        }

        int deposit(int investor, int coins) {
            if (noInvestor(investor)) {
                return -1;
            }
            if (coins < 1) {
                return -2;
            }
            State next = now.copy();
            Investor row = next.investors.get(investor);
            if ((long) row.cash + coins > MOST) {
                return -3;
            }
            row.cash += coins;
            become(next);
            return row.cash;
        }

        int setPoolShare(int percent) {
            if (!within(percent, 0, 50)) {
                return -2;
            }
            int old = now.share;
            if (old == percent) {
                return -5;
            }
            State next = now.copy();
            next.share = percent;
            become(next);
            return old;
        }

        int openLoan(int amount, int rate, int months) {
            if (!within(amount, 100, 99999) || !within(rate, 0, 50) || !within(months, 1, 36)) {
                return -2;
            }
            if (now.loans.size() == 10) {
                return -3;
            }
            State next = now.copy();
            Loan row = new Loan();
            row.amount = amount;
            row.rate = rate;
            row.months = months;
            next.loans.add(row);
            become(next);
            return next.loans.size() - 1;
        }

        int tryFunding(State next, int investor, int loan, boolean junior, int coins) {
            if (!within(investor, 0, next.investors.size() - 1) || !within(loan, 0, next.loans.size() - 1)) {
                return -1;
            }
            if (!within(coins, 1, 99999)) {
                return -2;
            }
            Investor payer = next.investors.get(investor);
            Loan funded = next.loans.get(loan);
            if (funded.state != 0 || next.missing(loan) < coins || payer.cash < coins) {
                return -4;
            }
            if (next.notes.size() == 60) {
                return -3;
            }
            Note note = new Note();
            note.investor = investor;
            note.loan = loan;
            note.junior = junior;
            note.principal = coins;
            note.funded = coins;
            next.notes.add(note);
            payer.cash -= coins;
            int missing = next.missing(loan);
            if (missing == 0) {
                funded.state = 1;
                funded.principal = funded.amount;
                funded.instalment = up(funded.amount, funded.months);
            }
            return missing;
        }

        int fund(int investor, int loan, boolean junior, int coins) {
            State next = now.copy();
            int answer = tryFunding(next, investor, loan, junior, coins);
            if (answer >= 0) {
                become(next);
            }
            return answer;
        }

        static void end(Loan loan, int state) {
            loan.state = state;
            loan.principal = 0;
            loan.interestDue = 0;
            loan.principalDue = 0;
            loan.arrears = 0;
            loan.ordered = -5;
        }

        int giveUp(int loan) {
            if (noLoan(loan)) {
                return -1;
            }
            if (!isIn(loan, 0)) {
                return -4;
            }
            State next = now.copy();
            List<Note> notes = next.of(loan, "sj");
            int coins = sum(notes, note -> note.principal);
            if (!next.payOut(coins, notes, principals(notes), false)) {
                return -3;
            }
            end(next.loans.get(loan), 4);
            become(next);
            return coins;
        }

        /** fee, interest, pool, principal, seniors, juniors; null if not possible. */
        int[] parts(int loan, int coins) {
            Loan row = now.loans.get(loan);
            int fee = (int) ((long) coins * FEES[row.servicer] / 1000);
            int rest = coins - fee;
            if (row.state != 1 || rest > row.interestDue + row.principal) {
                return null;
            }
            int interest = rest < row.interestDue ? rest : row.interestDue;
            int principal = rest - interest;
            int seniors = sum(now.of(loan, "s"), note -> note.principal);
            int toSeniors = principal < seniors ? principal : seniors;
            return new int[] {fee, interest, interest * now.share / 100, principal, toSeniors, principal - toSeniors};
        }

        int pay(int loan, int coins) {
            if (noLoan(loan)) {
                return -1;
            }
            if (!within(coins, 1, 199999)) {
                return -2;
            }
            int[] parts = parts(loan, coins);
            if (parts == null) {
                return -4;
            }
            State next = now.copy();
            List<Note> notes = next.of(loan, "sj");
            if (!next.payOut(parts[1] - parts[2], notes, principals(notes), true)
                || !next.payPrincipal(loan, parts[4], parts[5])) {
                return -3;
            }
            Loan row = next.loans.get(loan);
            next.earned[row.servicer] += parts[0];
            next.pool += parts[2];
            row.interestDue -= parts[1];
            row.principal -= parts[3];
            row.principalDue = row.principalDue > parts[3] ? row.principalDue - parts[3] : 0;
            if (row.interestDue + row.principalDue == 0) {
                row.arrears = 0;
            }
            if (row.interestDue + row.principal == 0) {
                end(row, 2);
            }
            become(next);
            return row.principal;
        }

        int cure(int loan, int months) {
            if (noLoan(loan)) {
                return -1;
            }
            if (!within(months, 1, 36)) {
                return -2;
            }
            State next = now.copy();
            Loan row = next.loans.get(loan);
            if (row.state != 1 || row.arrears == 0 || row.interestDue != 0) {
                return -4;
            }
            row.principalDue = 0;
            row.arrears = 0;
            row.instalment = up(row.principal, months);
            become(next);
            return row.instalment;
        }

        int sell(int loan, int price) {
            if (noLoan(loan)) {
                return -1;
            }
            if (!within(price, 0, 99999)) {
                return -2;
            }
            if (!isIn(loan, 1) || now.loans.get(loan).arrears < 3) {
                return -4;
            }
            State next = now.copy();
            List<Note> seniors = next.of(loan, "s");
            List<Note> juniors = next.of(loan, "j");
            int toSeniors = Math.min(price, sum(seniors, note -> note.principal));
            int toJuniors = Math.min(price - toSeniors, sum(juniors, note -> note.principal));
            if (!next.payPrincipal(loan, toSeniors, toJuniors)) {
                return -3;
            }
            next.pool += price - toSeniors - toJuniors;
            int made = Math.min(next.pool, sum(seniors, note -> note.principal));
            if (!next.payOut(made, seniors, principals(seniors), false)) {
                return -3;
            }
            next.pool -= made;
            int losses = 0;
            for (Note note : next.of(loan, "sj")) {
                losses += note.principal;
                next.investors.get(note.investor).losses += note.principal;
                note.loss = note.principal;
                note.principal = 0;
            }
            end(next.loans.get(loan), 3);
            become(next);
            return losses;
        }

        int switchServicer(int loan, int servicer) {
            if (noLoan(loan) || !within(servicer, 0, 3)) {
                return -1;
            }
            if (!isIn(loan, 1)) {
                return -4;
            }
            State next = now.copy();
            Loan row = next.loans.get(loan);
            if (row.ordered == servicer || row.ordered == -5 && row.servicer == servicer) {
                return -5;
            }
            row.ordered = servicer;
            become(next);
            return row.servicer;
        }

        int sellNote(int note, int investor, int price) {
            if (!within(note, 0, now.notes.size() - 1) || noInvestor(investor)) {
                return -1;
            }
            State next = now.copy();
            Note sold = next.notes.get(note);
            if (!within(price, 0, 99999) || sold.investor == investor) {
                return -2;
            }
            Investor buyer = next.investors.get(investor);
            Investor seller = next.investors.get(sold.investor);
            if (!isIn(sold.loan, 1) || buyer.cash < price) {
                return -4;
            }
            if ((long) seller.cash + price > MOST) {
                return -3;
            }
            buyer.cash -= price;
            seller.cash += price;
            sold.investor = investor;
            become(next);
            return sold.principal;
        }

        int pass(int months) {
            if (!within(months, 1, 24)) {
                return -2;
            }
            if (now.months + months > 240) {
                return -4;
            }
            State next = now.copy();
            for (int i = 0; i < months; i++) {
                for (Loan row : next.loans) {
                    if (row.state != 1) {
                        continue;
                    }
                    if (row.ordered >= 0) {
                        row.servicer = row.ordered;
                        row.ordered = -5;
                    }
                    row.arrears = row.interestDue + row.principalDue > 0 ? row.arrears + 1 : 0;
                    row.interestDue += (int) ((long) row.principal * row.rate / 1000);
                    row.principalDue += row.instalment;
                    if (row.principalDue > row.principal) {
                        row.principalDue = row.principal;
                    }
                }
            }
            next.months += months;
            become(next);
            return count(14);
        }

        int type(char sign) {
            if (text.length() == 60) {
                return -3;
            }
            text += sign;
            return text.length();
        }

        int clearText() {
            int length = text.length();
            text = "";
            return length;
        }

        /** A text is sound so far if one of the ends of a funding makes it whole. */
        static boolean soundSoFar(String text) {
            String funding = "0>0s1";
            for (int i = 0; i <= funding.length(); i++) {
                if (TEXT.matcher(text + funding.substring(i)).matches()) {
                    return true;
                }
            }
            return false;
        }

        int readFundings() {
            for (int i = 1; i <= text.length(); i++) {
                if (!soundSoFar(text.substring(0, i))) {
                    return -100 - (i - 1);
                }
            }
            if (!TEXT.matcher(text).matches()) {
                return -100 - text.length();
            }
            State next = now.copy();
            String[] fundings = text.split(";");
            for (String funding : fundings) {
                int answer = tryFunding(next, funding.charAt(0) - '0', funding.charAt(2) - '0',
                    funding.charAt(3) == 'j', Integer.parseInt(funding.substring(4)));
                if (answer < 0) {
                    return answer;
                }
            }
            become(next);
            return fundings.length;
        }

        int undo() {
            if (history.isEmpty()) {
                return -5;
            }
            now = history.removeLast();
            return history.size();
        }

        int keep() {
            kept = now.copy();
            return kept.notes.size();
        }

        int restore() {
            if (kept == null) {
                return -5;
            }
            become(kept.copy());
            return now.notes.size();
        }

        int investor(int investor, int what) {
            if (noInvestor(investor)) {
                return -1;
            }
            Investor row = now.investors.get(investor);
            List<Note> own = now.notes.stream().filter(note -> note.investor == investor && note.principal > 0).toList();
            return switch (what) {
                case 0 -> row.cash;
                case 1 -> sum(own, note -> note.principal);
                case 2 -> own.size();
                case 3 -> own.stream().mapToInt(note -> 1 << note.loan).reduce(0, (a, b) -> a | b);
                case 4 -> row.interest;
                case 5 -> row.losses;
                default -> -2;
            };
        }

        int loan(int loan, int what) {
            if (noLoan(loan)) {
                return -1;
            }
            Loan row = now.loans.get(loan);
            return switch (what) {
                case 0 -> row.state;
                case 1 -> row.amount;
                case 2 -> row.state == 1 ? sum(now.of(loan, "sj"), note -> note.principal) : 0;
                case 3 -> row.instalment;
                case 4 -> row.interestDue;
                case 5 -> row.principalDue;
                case 6 -> row.arrears;
                case 7 -> row.servicer;
                case 8 -> row.ordered;
                case 9 -> now.missing(loan);
                case 10 -> now.of(loan, "sj").size();
                case 11 -> sum(now.of(loan, "s"), note -> note.principal);
                case 12 -> sum(now.of(loan, "j"), note -> note.principal);
                default -> -2;
            };
        }

        int note(int note, int what) {
            if (!within(note, 0, now.notes.size() - 1)) {
                return -1;
            }
            Note row = now.notes.get(note);
            return switch (what) {
                case 0 -> row.investor;
                case 1 -> row.loan;
                case 2 -> row.junior ? 1 : 0;
                case 3 -> row.principal;
                case 4 -> row.funded;
                case 5 -> row.interest;
                case 6 -> row.loss;
                default -> -2;
            };
        }

        int split(int loan, int coins, int what) {
            if (noLoan(loan)) {
                return -1;
            }
            if (!within(coins, 1, 199999) || !within(what, 0, 5)) {
                return -2;
            }
            int[] parts = parts(loan, coins);
            return parts == null ? -4 : parts[what];
        }

        int toRepay(int loan) {
            if (noLoan(loan)) {
                return -1;
            }
            if (!isIn(loan, 1)) {
                return -4;
            }
            Loan row = now.loans.get(loan);
            int coins = 1;
            while (coins - (long) coins * FEES[row.servicer] / 1000 < row.principal + row.interestDue) {
                coins++;
            }
            return coins;
        }

        int servicer(int servicer, int what) {
            if (!within(servicer, 0, 3)) {
                return -1;
            }
            return switch (what) {
                case 0 -> FEES[servicer];
                case 1 -> now.earned[servicer];
                case 2 -> sum(now.loans, row -> row.state == 1 && row.servicer == servicer ? 1 : 0);
                default -> -2;
            };
        }

        int count(int what) {
            return switch (what) {
                case 0 -> now.months;
                case 1 -> now.investors.size();
                case 2 -> now.loans.size();
                case 3, 4, 5, 6, 7 -> sum(now.loans, row -> row.state == what - 3 ? 1 : 0);
                case 8 -> now.notes.size();
                case 9 -> now.pool;
                case 10 -> now.share;
                case 11 -> sum(now.loans, row -> row.state == 1 ? row.principal : 0);
                case 12 -> sum(now.loans, row -> row.interestDue);
                case 13 -> sum(now.investors, row -> row.losses);
                case 14 -> sum(now.loans, row -> row.state == 1 && row.arrears > 0 ? 1 : 0);
                case 15 -> sum(now.loans, row -> row.ordered >= 0 ? 1 : 0);
                case 16 -> history.size();
                case 17 -> text.length();
                default -> -2;
            };
        }
    }
}
