/**
 * Lending among peers: loans that are funded in parts, each part a note of a senior or a junior class, payments
 * that are split into fee, interest and principal, arrears that are cured or sold, and a pool for the seniors.
 */
public final class PeerNotes {
    /** There is no such investor, servicer, loan or note. */
    public static final int UNKNOWN = -1;
    /** Another argument is out of range. */
    public static final int BAD_VALUE = -2;
    /** There is no more room. */
    public static final int FULL = -3;
    /** This is not possible. */
    public static final int NOT_POSSIBLE = -4;
    /** There is no such thing; not an error. */
    public static final int NONE = -5;

    private static final int FINE = 0;
    private static final int TEXT_FAULT = -100;

    private static final int MOST_INVESTORS = 8;
    private static final int MOST_LOANS = 10;
    private static final int MOST_NOTES = 60;
    private static final int MOST_STATES = 4;
    private static final int MOST_SIGNS = 60;
    /** The shortest funding has 5 signs, and a ";" stands between two: 60 signs have room for 10. */
    private static final int MOST_FUNDINGS = 10;

    private static final int MOST_CASH = 2147483647;
    private static final int MOST_COINS = 99999;
    private static final int MOST_PAYMENT = 199999;
    private static final int LEAST_AMOUNT = 100;
    private static final int MOST_RATE = 50;
    private static final int MOST_LOAN_MONTHS = 36;
    private static final int MOST_MONTHS_AT_ONCE = 24;
    private static final int MOST_MONTHS = 240;
    private static final int MOST_SHARE = 50;
    private static final int FIRST_SHARE = 5;
    private static final int ARREARS_FOR_SALE = 3;

    /** Thousandths of each payment, by servicer. */
    private static final int[] FEES = {5, 10, 20, 40};

    private static final int IN_FUNDING = 0;
    private static final int RUNNING = 1;
    private static final int REPAID = 2;
    private static final int SOLD = 3;
    private static final int GIVEN_UP = 4;

    private static final int SENIOR = 0;
    private static final int JUNIOR = 1;

    private final Market market = new Market();
    private final Market before = new Market();
    private final Market kept = new Market();
    private boolean hasKept = false;
    private final History history = new History();
    private final FundingText text = new FundingText();
    private final Parts parts = new Parts();
    private final Payout payout = new Payout();

    /** Creates a market without investors and loans. */
    public PeerNotes() {
    }

    // ---- who

    public int addInvestor(int cash) {
        if (cash < 0) {
            return BAD_VALUE;
        }
        if (market.investorCount >= MOST_INVESTORS) {
            return FULL;
        }
        history.record(market);
        int number = market.investorCount;
        market.investors[number].open(cash);
        market.investorCount++;
        return number;
    }

    public int deposit(int investor, int coins) {
        if (!market.hasInvestor(investor)) {
            return UNKNOWN;
        }
        if (coins < 1) {
            return BAD_VALUE;
        }
        if (coins > MOST_CASH - market.investors[investor].cash) {
            return FULL;
        }
        history.record(market);
        market.investors[investor].cash += coins;
        return market.investors[investor].cash;
    }

    public int setPoolShare(int percent) {
        if (percent < 0 || percent > MOST_SHARE) {
            return BAD_VALUE;
        }
        if (percent == market.share) {
            return NONE;
        }
        history.record(market);
        int previous = market.share;
        market.share = percent;
        return previous;
    }

    // ---- loans

    public int openLoan(int amount, int rate, int months) {
        if (amount < LEAST_AMOUNT || amount > MOST_COINS || rate < 0 || rate > MOST_RATE || !isLoanMonths(months)) {
            return BAD_VALUE;
        }
        if (market.loanCount >= MOST_LOANS) {
            return FULL;
        }
        history.record(market);
        int number = market.loanCount;
        market.loans[number].open(amount, rate, months);
        market.loanCount++;
        return number;
    }

    public int fund(int investor, int loan, boolean junior, int coins) {
        int error = market.fundingError(investor, loan, coins);
        if (error != FINE) {
            return error;
        }
        history.record(market);
        market.addNote(investor, loan, junior ? JUNIOR : SENIOR, coins);
        return market.missing(loan);
    }

    public int giveUp(int loan) {
        if (!market.hasLoan(loan)) {
            return UNKNOWN;
        }
        if (market.loans[loan].state != IN_FUNDING) {
            return NOT_POSSIBLE;
        }
        int coins = market.principals(loan, SENIOR) + market.principals(loan, JUNIOR);
        payout.ofGivingUp(market, loan);
        if (!payout.fits(market)) {
            return FULL;
        }
        history.record(market);
        payout.carryOut(market);
        market.loans[loan].end(GIVEN_UP);
        return coins;
    }

    public int pay(int loan, int coins) {
        if (!market.hasLoan(loan)) {
            return UNKNOWN;
        }
        if (!isPayment(coins)) {
            return BAD_VALUE;
        }
        if (!parts.areOf(market, loan, coins)) {
            return NOT_POSSIBLE;
        }
        payout.ofPayment(market, loan, parts);
        if (!payout.fits(market)) {
            return FULL;
        }
        history.record(market);
        payout.carryOut(market);
        market.takePayment(loan, parts);
        return market.loans[loan].principal;
    }

    public int cure(int loan, int months) {
        if (!market.hasLoan(loan)) {
            return UNKNOWN;
        }
        if (!isLoanMonths(months)) {
            return BAD_VALUE;
        }
        Loan cured = market.loans[loan];
        if (cured.state != RUNNING || cured.arrears == 0 || cured.interestDue > 0) {
            return NOT_POSSIBLE;
        }
        history.record(market);
        cured.principalDue = 0;
        cured.arrears = 0;
        cured.instalment = dividedUp(cured.principal, months);
        return cured.instalment;
    }

    public int sell(int loan, int price) {
        if (!market.hasLoan(loan)) {
            return UNKNOWN;
        }
        if (!isPrice(price)) {
            return BAD_VALUE;
        }
        if (!market.runs(loan) || market.loans[loan].arrears < ARREARS_FOR_SALE) {
            return NOT_POSSIBLE;
        }
        int poolThen = payout.ofSale(market, loan, price);
        if (!payout.fits(market)) {
            return FULL;
        }
        history.record(market);
        payout.carryOut(market);
        market.pool = poolThen;
        market.loans[loan].end(SOLD);
        return market.writeOff(loan);
    }

    public int switchServicer(int loan, int servicer) {
        if (!market.hasLoan(loan) || !isServicer(servicer)) {
            return UNKNOWN;
        }
        if (!market.runs(loan)) {
            return NOT_POSSIBLE;
        }
        Loan served = market.loans[loan];
        int awaited = served.ordered == NONE ? served.servicer : served.ordered;
        if (servicer == awaited) {
            return NONE;
        }
        history.record(market);
        served.ordered = servicer;
        return served.servicer;
    }

    public int sellNote(int note, int investor, int price) {
        if (!market.hasNote(note) || !market.hasInvestor(investor)) {
            return UNKNOWN;
        }
        Note sold = market.notes[note];
        int seller = sold.investor;
        if (!isPrice(price) || seller == investor) {
            return BAD_VALUE;
        }
        if (!market.runs(sold.loan) || market.cashOf(investor) < price) {
            return NOT_POSSIBLE;
        }
        if (price > MOST_CASH - market.cashOf(seller)) {
            return FULL;
        }
        history.record(market);
        market.give(investor, -price);
        market.give(seller, price);
        sold.investor = investor;
        return sold.principal;
    }

    public int pass(int months) {
        if (months < 1 || months > MOST_MONTHS_AT_ONCE) {
            return BAD_VALUE;
        }
        if (months > MOST_MONTHS - market.months) {
            return NOT_POSSIBLE;
        }
        history.record(market);
        for (int i = 0; i < months; i++) {
            market.passMonth();
        }
        return market.loansInArrears();
    }

    // ---- texts

    public int type(char character) {
        if (text.length >= MOST_SIGNS) {
            return FULL;
        }
        text.signs[text.length] = character;
        text.length++;
        return text.length;
    }

    public int clearText() {
        int length = text.length;
        text.length = 0;
        return length;
    }

    public int readFundings() {
        int fault = text.read();
        if (fault != FundingText.SOUND) {
            return TEXT_FAULT - fault;
        }
        before.copyFrom(market);
        for (int i = 0; i < text.fundingCount; i++) {
            Funding funding = text.fundings[i];
            int error = market.fundingError(funding.investor, funding.loan, funding.coins);
            if (error != FINE) {
                market.copyFrom(before);
                return error;
            }
            market.addNote(funding.investor, funding.loan, funding.kind, funding.coins);
        }
        // Recorded only now: a reading that fails on the way must not drop the oldest state.
        history.record(before);
        return text.fundingCount;
    }

    // ---- history

    public int undo() {
        if (history.size == 0) {
            return NONE;
        }
        history.takeLatest(market);
        return history.size;
    }

    public int keep() {
        kept.copyFrom(market);
        hasKept = true;
        return market.noteCount;
    }

    public int restore() {
        if (!hasKept) {
            return NONE;
        }
        history.record(market);
        market.copyFrom(kept);
        return market.noteCount;
    }

    // ---- what is told

    public int investor(int investor, int what) {
        if (!market.hasInvestor(investor)) {
            return UNKNOWN;
        }
        Investor asked = market.investors[investor];
        switch (what) {
            case 0:
                return asked.cash;
            case 1:
                return market.principalsOf(investor);
            case 2:
                return market.liveNotesOf(investor);
            case 3:
                return market.loansOf(investor);
            case 4:
                return asked.interest;
            case 5:
                return asked.losses;
            default:
                return BAD_VALUE;
        }
    }

    public int loan(int loan, int what) {
        if (!market.hasLoan(loan)) {
            return UNKNOWN;
        }
        Loan asked = market.loans[loan];
        switch (what) {
            case 0:
                return asked.state;
            case 1:
                return asked.amount;
            case 2:
                return asked.principal;
            case 3:
                return asked.instalment;
            case 4:
                return asked.interestDue;
            case 5:
                return asked.principalDue;
            case 6:
                return asked.arrears;
            case 7:
                return asked.servicer;
            case 8:
                return asked.ordered;
            case 9:
                return market.missing(loan);
            case 10:
                return market.notesFor(loan);
            case 11:
                return market.principals(loan, SENIOR);
            case 12:
                return market.principals(loan, JUNIOR);
            default:
                return BAD_VALUE;
        }
    }

    public int note(int note, int what) {
        if (!market.hasNote(note)) {
            return UNKNOWN;
        }
        Note asked = market.notes[note];
        switch (what) {
            case 0:
                return asked.investor;
            case 1:
                return asked.loan;
            case 2:
                return asked.kind;
            case 3:
                return asked.principal;
            case 4:
                return asked.funded;
            case 5:
                return asked.interest;
            case 6:
                return asked.loss;
            default:
                return BAD_VALUE;
        }
    }

    public int split(int loan, int coins, int what) {
        if (!market.hasLoan(loan)) {
            return UNKNOWN;
        }
        if (!isPayment(coins) || what < 0 || what > 5) {
            return BAD_VALUE;
        }
        if (!parts.areOf(market, loan, coins)) {
            return NOT_POSSIBLE;
        }
        switch (what) {
            case 0:
                return parts.fee;
            case 1:
                return parts.interest;
            case 2:
                return parts.toPool;
            case 3:
                return parts.principal;
            case 4:
                return parts.toSeniors;
            default:
                return parts.toJuniors;
        }
    }

    public int toRepay(int loan) {
        if (!market.hasLoan(loan)) {
            return UNKNOWN;
        }
        if (!market.runs(loan)) {
            return NOT_POSSIBLE;
        }
        Loan asked = market.loans[loan];
        long owed = (long) asked.principal + asked.interestDue;
        int thousandths = 1000 - feeOf(asked.servicer);
        if (thousandths <= 0) {
            return NOT_POSSIBLE;
        }
        // As the fee is rounded down, what it leaves of c coins is c * thousandths / 1000 rounded UP: the fewest
        // coins that leave all that is owed are the first ones past (owed - 1) * 1000 / thousandths.
        return (int) ((owed - 1) * 1000 / thousandths) + 1;
    }

    public int servicer(int servicer, int what) {
        if (!isServicer(servicer)) {
            return UNKNOWN;
        }
        switch (what) {
            case 0:
                return FEES[servicer];
            case 1:
                return market.earned[servicer];
            case 2:
                return market.loansServedBy(servicer);
            default:
                return BAD_VALUE;
        }
    }

    public int count(int what) {
        if (what >= 3 && what <= 7) {
            return market.loansInState(what - 3);
        }
        switch (what) {
            case 0:
                return market.months;
            case 1:
                return market.investorCount;
            case 2:
                return market.loanCount;
            case 8:
                return market.noteCount;
            case 9:
                return market.pool;
            case 10:
                return market.share;
            case 11:
                return market.allPrincipals();
            case 12:
                return market.allInterestDue();
            case 13:
                return market.allLosses();
            case 14:
                return market.loansInArrears();
            case 15:
                return market.ordersOfSwitches();
            case 16:
                return history.size;
            case 17:
                return text.length;
            default:
                return BAD_VALUE;
        }
    }

    // ---- ranges and reckoning

    private static boolean isServicer(int servicer) {
        return servicer >= 0 && servicer < FEES.length;
    }

    private static boolean isLoanMonths(int months) {
        return months >= 1 && months <= MOST_LOAN_MONTHS;
    }

    private static boolean isPayment(int coins) {
        return coins >= 1 && coins <= MOST_PAYMENT;
    }

    private static boolean isPrice(int price) {
        return price >= 0 && price <= MOST_COINS;
    }

    private static int feeOf(int servicer) {
        return isServicer(servicer) ? FEES[servicer] : 0;
    }

    private static int dividedUp(int coins, int months) {
        return months < 1 ? coins : (coins + months - 1) / months;
    }

    // ---- rows of a state

    private static final class Investor {
        int cash;
        int interest;
        int losses;

        void open(int newCash) {
            cash = newCash;
            interest = 0;
            losses = 0;
        }

        void copyFrom(Investor other) {
            cash = other.cash;
            interest = other.interest;
            losses = other.losses;
        }
    }

    private static final class Loan {
        int state;
        int amount;
        int rate;
        int months;
        int principal;
        int instalment;
        int interestDue;
        int principalDue;
        int arrears;
        int servicer;
        int ordered;

        void open(int newAmount, int newRate, int newMonths) {
            state = IN_FUNDING;
            amount = newAmount;
            rate = newRate;
            months = newMonths;
            principal = 0;
            instalment = NONE;
            interestDue = 0;
            principalDue = 0;
            arrears = 0;
            servicer = 0;
            ordered = NONE;
        }

        void start() {
            state = RUNNING;
            principal = amount;
            instalment = dividedUp(amount, months);
        }

        void end(int lastState) {
            state = lastState;
            principal = 0;
            interestDue = 0;
            principalDue = 0;
            arrears = 0;
            ordered = NONE;
        }

        void passMonth() {
            if (ordered != NONE) {
                servicer = ordered;
                ordered = NONE;
            }
            arrears = interestDue > 0 || principalDue > 0 ? arrears + 1 : 0;
            interestDue += principal * rate / 1000;
            principalDue = Math.min(principal, principalDue + instalment);
        }

        void takePayment(int interest, int coinsOfPrincipal) {
            interestDue -= interest;
            principal -= coinsOfPrincipal;
            principalDue = Math.max(0, principalDue - coinsOfPrincipal);
            if (interestDue == 0 && principalDue == 0) {
                arrears = 0;
            }
            if (interestDue == 0 && principal == 0) {
                end(REPAID);
            }
        }

        void copyFrom(Loan other) {
            state = other.state;
            amount = other.amount;
            rate = other.rate;
            months = other.months;
            principal = other.principal;
            instalment = other.instalment;
            interestDue = other.interestDue;
            principalDue = other.principalDue;
            arrears = other.arrears;
            servicer = other.servicer;
            ordered = other.ordered;
        }
    }

    private static final class Note {
        int investor;
        int loan;
        int kind;
        int principal;
        int funded;
        int interest;
        int loss;

        void open(int newInvestor, int newLoan, int newKind, int coins) {
            investor = newInvestor;
            loan = newLoan;
            kind = newKind;
            principal = coins;
            funded = coins;
            interest = 0;
            loss = 0;
        }

        void copyFrom(Note other) {
            investor = other.investor;
            loan = other.loan;
            kind = other.kind;
            principal = other.principal;
            funded = other.funded;
            interest = other.interest;
            loss = other.loss;
        }
    }

    /** One state: all that undo and the snapshot bring back. Its rows are made once and written over. */
    private static final class Market {
        final Investor[] investors = new Investor[MOST_INVESTORS];
        final Loan[] loans = new Loan[MOST_LOANS];
        final Note[] notes = new Note[MOST_NOTES];
        final int[] earned = new int[FEES.length];
        int investorCount = 0;
        int loanCount = 0;
        int noteCount = 0;
        int months = 0;
        int pool = 0;
        int share = FIRST_SHARE;

        Market() {
            for (int i = 0; i < investors.length; i++) {
                investors[i] = new Investor();
            }
            for (int i = 0; i < loans.length; i++) {
                loans[i] = new Loan();
            }
            for (int i = 0; i < notes.length; i++) {
                notes[i] = new Note();
            }
        }

        void copyFrom(Market other) {
            for (int i = 0; i < investors.length; i++) {
                investors[i].copyFrom(other.investors[i]);
            }
            for (int i = 0; i < loans.length; i++) {
                loans[i].copyFrom(other.loans[i]);
            }
            for (int i = 0; i < notes.length; i++) {
                notes[i].copyFrom(other.notes[i]);
            }
            for (int i = 0; i < earned.length; i++) {
                earned[i] = other.earned[i];
            }
            investorCount = other.investorCount;
            loanCount = other.loanCount;
            noteCount = other.noteCount;
            months = other.months;
            pool = other.pool;
            share = other.share;
        }

        boolean hasInvestor(int investor) {
            return investor >= 0 && investor < investorCount;
        }

        boolean hasLoan(int loan) {
            return loan >= 0 && loan < loanCount;
        }

        boolean hasNote(int note) {
            return note >= 0 && note < noteCount;
        }

        boolean runs(int loan) {
            return hasLoan(loan) && loans[loan].state == RUNNING;
        }

        int cashOf(int investor) {
            return hasInvestor(investor) ? investors[investor].cash : 0;
        }

        void give(int investor, int coins) {
            if (hasInvestor(investor)) {
                investors[investor].cash += coins;
            }
        }

        int fundingError(int investor, int loan, int coins) {
            if (!hasInvestor(investor) || !hasLoan(loan)) {
                return UNKNOWN;
            }
            if (coins < 1 || coins > MOST_COINS) {
                return BAD_VALUE;
            }
            if (loans[loan].state != IN_FUNDING || coins > missing(loan) || coins > investors[investor].cash) {
                return NOT_POSSIBLE;
            }
            return noteCount >= MOST_NOTES ? FULL : FINE;
        }

        /** Only for what fundingError finds to be fine. */
        void addNote(int investor, int loan, int kind, int coins) {
            if (fundingError(investor, loan, coins) != FINE) {
                return;
            }
            notes[noteCount].open(investor, loan, kind, coins);
            noteCount++;
            give(investor, -coins);
            if (missing(loan) == 0) {
                loans[loan].start();
            }
        }

        void takePayment(int loan, Parts parts) {
            if (!hasLoan(loan)) {
                return;
            }
            int servicer = loans[loan].servicer;
            if (isServicer(servicer)) {
                earned[servicer] += parts.fee;
            }
            pool += parts.toPool;
            loans[loan].takePayment(parts.interest, parts.principal);
        }

        /** What the notes of a loan still lack is their loss; returns all of it. */
        int writeOff(int loan) {
            int all = 0;
            for (int i = 0; i < noteCount; i++) {
                Note note = notes[i];
                if (note.loan == loan) {
                    note.loss = note.principal;
                    note.principal = 0;
                    all += note.loss;
                    if (hasInvestor(note.investor)) {
                        investors[note.investor].losses += note.loss;
                    }
                }
            }
            return all;
        }

        void passMonth() {
            months++;
            for (int i = 0; i < loanCount; i++) {
                if (runs(i)) {
                    loans[i].passMonth();
                }
            }
        }

        int missing(int loan) {
            if (!hasLoan(loan) || loans[loan].state != IN_FUNDING) {
                return 0;
            }
            return loans[loan].amount - principals(loan, SENIOR) - principals(loan, JUNIOR);
        }

        int principals(int loan, int kind) {
            int all = 0;
            for (int i = 0; i < noteCount; i++) {
                if (notes[i].loan == loan && notes[i].kind == kind) {
                    all += notes[i].principal;
                }
            }
            return all;
        }

        int notesFor(int loan) {
            int found = 0;
            for (int i = 0; i < noteCount; i++) {
                if (notes[i].loan == loan) {
                    found++;
                }
            }
            return found;
        }

        int principalsOf(int investor) {
            int all = 0;
            for (int i = 0; i < noteCount; i++) {
                if (notes[i].investor == investor) {
                    all += notes[i].principal;
                }
            }
            return all;
        }

        int liveNotesOf(int investor) {
            int found = 0;
            for (int i = 0; i < noteCount; i++) {
                if (notes[i].investor == investor && notes[i].principal != 0) {
                    found++;
                }
            }
            return found;
        }

        int loansOf(int investor) {
            int bits = 0;
            for (int i = 0; i < noteCount; i++) {
                if (notes[i].investor == investor && notes[i].principal != 0) {
                    bits |= 1 << notes[i].loan;
                }
            }
            return bits;
        }

        int loansInState(int state) {
            int found = 0;
            for (int i = 0; i < loanCount; i++) {
                if (loans[i].state == state) {
                    found++;
                }
            }
            return found;
        }

        int loansServedBy(int servicer) {
            int found = 0;
            for (int i = 0; i < loanCount; i++) {
                if (runs(i) && loans[i].servicer == servicer) {
                    found++;
                }
            }
            return found;
        }

        // Only loans that run have a principal, something due, arrears or an order: Loan.end() sees to it.

        int loansInArrears() {
            int found = 0;
            for (int i = 0; i < loanCount; i++) {
                if (loans[i].arrears > 0) {
                    found++;
                }
            }
            return found;
        }

        int ordersOfSwitches() {
            int found = 0;
            for (int i = 0; i < loanCount; i++) {
                if (loans[i].ordered != NONE) {
                    found++;
                }
            }
            return found;
        }

        int allPrincipals() {
            int all = 0;
            for (int i = 0; i < loanCount; i++) {
                all += loans[i].principal;
            }
            return all;
        }

        int allInterestDue() {
            int all = 0;
            for (int i = 0; i < loanCount; i++) {
                all += loans[i].interestDue;
            }
            return all;
        }

        int allLosses() {
            int all = 0;
            for (int i = 0; i < noteCount; i++) {
                all += notes[i].loss;
            }
            return all;
        }
    }

    /** The states before the latest acts, the oldest one first. */
    private static final class History {
        final Market[] states = new Market[MOST_STATES];
        int size = 0;

        History() {
            for (int i = 0; i < states.length; i++) {
                states[i] = new Market();
            }
        }

        void record(Market market) {
            if (size >= states.length) {
                dropOldest();
            }
            states[size].copyFrom(market);
            size++;
        }

        void takeLatest(Market into) {
            if (size > 0) {
                size--;
                into.copyFrom(states[size]);
            }
        }

        private void dropOldest() {
            Market oldest = states[0];
            for (int i = 1; i < states.length; i++) {
                states[i - 1] = states[i];
            }
            states[states.length - 1] = oldest;
            size = states.length - 1;
        }
    }

    private static final class Funding {
        int investor;
        int loan;
        int kind;
        int coins;
    }

    /** The text, and the fundings that it tells. */
    private static final class FundingText {
        static final int SOUND = -1;

        private static final int INVESTOR = 0;
        private static final int ARROW = 1;
        private static final int LOAN = 2;
        private static final int KIND = 3;
        private static final int FIRST_COIN = 4;
        private static final int LAST_COIN = 8;

        final char[] signs = new char[MOST_SIGNS];
        int length = 0;
        final Funding[] fundings = new Funding[MOST_FUNDINGS];
        int fundingCount = 0;

        FundingText() {
            for (int i = 0; i < fundings.length; i++) {
                fundings[i] = new Funding();
            }
        }

        /** Reads the fundings; returns the fault of the text, or SOUND. */
        int read() {
            int place = INVESTOR;
            int ended = 0;
            for (int i = 0; i < length && ended < fundings.length; i++) {
                char sign = signs[i];
                if (!isAllowed(sign, place)) {
                    return i;
                }
                if (sign == ';') {
                    ended++;
                    place = INVESTOR;
                } else {
                    take(fundings[ended], sign, place);
                    place++;
                }
            }
            if (place <= FIRST_COIN) {
                return length;
            }
            fundingCount = ended + 1;
            return SOUND;
        }

        private static boolean isAllowed(char sign, int place) {
            boolean digit = sign >= '0' && sign <= '9';
            switch (place) {
                case INVESTOR:
                case LOAN:
                    return digit;
                case ARROW:
                    return sign == '>';
                case KIND:
                    return sign == 's' || sign == 'j';
                case FIRST_COIN:
                    return digit && sign != '0';
                default:
                    return sign == ';' || digit && place <= LAST_COIN;
            }
        }

        private static void take(Funding funding, char sign, int place) {
            switch (place) {
                case INVESTOR:
                    funding.investor = sign - '0';
                    break;
                case ARROW:
                    break;
                case LOAN:
                    funding.loan = sign - '0';
                    break;
                case KIND:
                    funding.kind = sign == 'j' ? JUNIOR : SENIOR;
                    break;
                case FIRST_COIN:
                    funding.coins = sign - '0';
                    break;
                default:
                    funding.coins = funding.coins * 10 + (sign - '0');
                    break;
            }
        }
    }

    /** The parts of a payment. */
    private static final class Parts {
        int fee;
        int interest;
        int toPool;
        int principal;
        int toSeniors;
        int toJuniors;

        /** Splits a payment; false if the loan does not run, or owes less. */
        boolean areOf(Market market, int number, int coins) {
            if (!market.runs(number)) {
                return false;
            }
            Loan loan = market.loans[number];
            fee = coins * feeOf(loan.servicer) / 1000;
            int rest = coins - fee;
            if (rest > loan.interestDue + loan.principal) {
                return false;
            }
            interest = Math.min(rest, loan.interestDue);
            toPool = interest * market.share / 100;
            principal = rest - interest;
            toSeniors = Math.min(principal, market.principals(number, SENIOR));
            toJuniors = principal - toSeniors;
            return true;
        }
    }

    /** What each note gets, reckoned before anything is changed: a cash that has no room refuses all of it. */
    private static final class Payout {
        private final int[] interest = new int[MOST_NOTES];
        private final int[] principal = new int[MOST_NOTES];
        private final int[] weights = new int[MOST_NOTES];

        void ofGivingUp(Market market, int loan) {
            clear();
            weighPrincipals(market, loan, true, true);
            for (int i = 0; i < principal.length; i++) {
                principal[i] = weights[i];
            }
        }

        void ofPayment(Market market, int loan, Parts parts) {
            clear();
            weighPrincipals(market, loan, true, true);
            shareOut(parts.interest - parts.toPool, interest);
            shareByClass(market, loan, parts.toSeniors, parts.toJuniors);
        }

        /** Returns the coins of the pool then. */
        int ofSale(Market market, int loan, int price) {
            clear();
            int seniors = market.principals(loan, SENIOR);
            int toSeniors = Math.min(price, seniors);
            int toJuniors = Math.min(price - toSeniors, market.principals(loan, JUNIOR));
            shareByClass(market, loan, toSeniors, toJuniors);
            int pool = market.pool + (price - toSeniors - toJuniors);
            int fromPool = Math.min(pool, seniors - toSeniors);
            weighPrincipals(market, loan, true, false);
            for (int i = 0; i < weights.length; i++) {
                weights[i] = Math.max(0, weights[i] - principal[i]);
            }
            shareOut(fromPool, principal);
            return pool - fromPool;
        }

        boolean fits(Market market) {
            for (int i = 0; i < market.investorCount; i++) {
                long cash = market.investors[i].cash;
                for (int n = 0; n < market.noteCount; n++) {
                    if (market.notes[n].investor == i) {
                        cash += interest[n] + principal[n];
                    }
                }
                if (cash > MOST_CASH) {
                    return false;
                }
            }
            return true;
        }

        void carryOut(Market market) {
            for (int n = 0; n < market.noteCount; n++) {
                Note note = market.notes[n];
                note.interest += interest[n];
                note.principal -= principal[n];
                if (market.hasInvestor(note.investor)) {
                    market.investors[note.investor].interest += interest[n];
                    market.give(note.investor, interest[n] + principal[n]);
                }
            }
        }

        private void clear() {
            for (int i = 0; i < weights.length; i++) {
                interest[i] = 0;
                principal[i] = 0;
                weights[i] = 0;
            }
        }

        private void shareByClass(Market market, int loan, int toSeniors, int toJuniors) {
            weighPrincipals(market, loan, true, false);
            shareOut(toSeniors, principal);
            weighPrincipals(market, loan, false, true);
            shareOut(toJuniors, principal);
        }

        private void weighPrincipals(Market market, int loan, boolean seniors, boolean juniors) {
            for (int i = 0; i < market.noteCount; i++) {
                Note note = market.notes[i];
                boolean weighed = note.loan == loan && (note.kind == SENIOR ? seniors : juniors);
                weights[i] = weighed ? note.principal : 0;
            }
        }

        /** Adds to what the notes got; a note gets at most what it weighs if the coins are at most all weights. */
        private void shareOut(int coins, int[] got) {
            long all = 0;
            for (int i = 0; i < weights.length; i++) {
                all += weights[i];
            }
            if (all <= 0) {
                return;
            }
            int left = coins;
            for (int i = 0; i < weights.length; i++) {
                int part = (int) ((long) coins * weights[i] / all);
                got[i] += part;
                left -= part;
            }
            for (int i = 0; i < weights.length && left > 0; i++) {
                if (weights[i] != 0) {
                    got[i]++;
                    left--;
                }
            }
        }
    }
}
