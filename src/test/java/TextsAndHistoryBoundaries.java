import java.util.List;

/** The boundary cases of the promises 14 to 19: texts and history; a test each. */
public final class TextsAndHistoryBoundaries extends Sentences {
    public static void main(String[] args) {
        run(TextsAndHistoryBoundaries.class);
    }

    // ---- 14

    @Says(in = "Promise 14", value = {"Types a character behind the text.", "Returns the length of the text then"})
    static void behindTheText() {
        PeerNotes x = Markets.withInvestors(100);
        x.openLoan(100, 0, 1);
        String text = "0>0j37";
        for (int i = 0; i < text.length(); i++) {
            due("type", x.type(text.charAt(i)), i + 1);
            due("count(17)", x.count(17), i + 1);
        }
        due("readFundings()", x.readFundings(), 1);
        due("note(0, 4)", x.note(0, 4), 37);
        due("type('5') behind a text that was read", x.type('5'), 7);
        due("readFundings() of 375 coins", x.readFundings(), NOT_POSSIBLE);
    }

    @Says(in = "Promise 14", value = "- `character`: any character")
    static void anyCharacter() {
        int[] signs = {0, 9, 10, 32, 127, 128, 255, 256, 0x7FFF, 0x8000, 0xD800, 0xDFFF, 0xFFFE, 0xFFFF};
        PeerNotes x = new PeerNotes();
        for (int i = 0; i < signs.length; i++) {
            due("type((char) " + signs[i] + ")", x.type((char) signs[i]), i + 1);
        }
        due("readFundings()", x.readFundings(), -100);
        due("clearText()", x.clearText(), signs.length);
    }

    @Says(in = "Promise 14", value = "FULL if it has 60 characters.")
    static void theSixtyFirstCharacter() {
        PeerNotes x = new PeerNotes();
        for (int i = 1; i <= 60; i++) {
            due("type, number " + i, x.type('7'), i);
        }
        refused("type, the 61st", x, y -> y.type('8'), FULL);
        due("count(17)", x.count(17), 60);
        due("clearText()", x.clearText(), 60);
        due("type after clearText()", x.type('7'), 1);
    }

    @Says(in = "Promise 14", value = "FULL if it has 60 characters.")
    static void theSixtyFirstCharacterIsNotKept() {
        PeerNotes x = Markets.withInvestors(1000);
        x.openLoan(1000, 0, 1);
        // The 60th character is the second digit of the coins.
        Markets.write(x, "0>0s1;0>0s1;0>0s1;0>0s1;0>0s1;0>0s1;0>0s1;0>0s1;0>0s1;0>0s12");
        refused("type('3'), the 61st", x, y -> y.type('3'), FULL);
        due("readFundings()", x.readFundings(), 10);
        due("note(9, 4)", x.note(9, 4), 12);
    }

    @Says(in = "Promise 14", value = "Types a character behind the text.")
    static void typeIsNoAct() {
        noAct("type('0')", new PeerNotes(), x -> x.type('0'));
        noAct("type('0')", Markets.withInvestors(1), x -> x.type('0'));
    }

    // ---- 15

    @Says(in = "Promise 15", value = {"Empties the text.", "Returns the length that it had."})
    static void lengthsFrom0To60() {
        PeerNotes x = new PeerNotes();
        due("clearText() of the first text", x.clearText(), 0);
        int[] lengths = {1, 2, 59, 60};
        for (int length : lengths) {
            for (int i = 0; i < length; i++) {
                x.type(';');
            }
            due("clearText()", x.clearText(), length);
            due("count(17)", x.count(17), 0);
            due("clearText() again", x.clearText(), 0);
            due("readFundings()", x.readFundings(), -100);
        }
    }

    @Says(in = "Promise 15", value = "Empties the text.")
    static void nothingOfTheOldTextIsRead() {
        PeerNotes x = Markets.withInvestors(100);
        x.openLoan(100, 0, 1);
        Markets.write(x, "0>0s12;0>0s3");
        x.clearText();
        x.type('0');
        due("readFundings()", x.readFundings(), -101);
        x.type('>');
        due("readFundings()", x.readFundings(), -102);
        due("read 0>0s4", Markets.read(x, "0>0s4"), 1);
        dueRows("note(.., 4)", Markets.notes(x, 4), 4);
    }

    @Says(in = "Promise 15", value = "Empties the text.")
    static void clearTextIsNoAct() {
        PeerNotes x = Markets.withInvestors(1);
        x.type('5');
        noAct("clearText()", x, PeerNotes::clearText);
        noAct("clearText() of an empty text", x, PeerNotes::clearText);
    }

    // ---- 16

    private static PeerNotes withText(String text) {
        PeerNotes x = Markets.ofEachState();
        Markets.write(x, text);
        return x;
    }

    @Says(in = "Promise 16", value = {"Makes the fundings of the text, which stays, one after the other",
        "Returns how many there are"})
    static void theTextStays() {
        PeerNotes x = Markets.withInvestors(100, 50);
        x.openLoan(1000, 0, 1);
        Markets.write(x, "0>0s20;1>0j10");
        for (int i = 1; i <= 5; i++) {
            due("readFundings()", x.readFundings(), 2);
            due("count(8)", x.count(8), 2 * i);
            due("count(17)", x.count(17), 13);
        }
        dueRows("investor(.., 0)", Markets.investors(x, 0), 0, 0);
        refused("readFundings(), the sixth time", x, PeerNotes::readFundings, NOT_POSSIBLE);
        dueRows("note(.., 2)", Markets.notes(x, 2), 0, 1, 0, 1, 0, 1, 0, 1, 0, 1);
    }

    @Says(in = "Promise 16", value = "one after the other")
    static void theTurnOfEachFunding() {
        PeerNotes x = Markets.withInvestors(100, 100);
        x.openLoan(150, 0, 1);
        x.openLoan(100, 0, 1);
        due("read: all cash, and all that is missing", Markets.read(x, "0>0s50;1>0j100;0>1s50"), 3);
        dueRows("investor(.., 0)", Markets.investors(x, 0), 0, 0);
        due("loan(0, 0)", x.loan(0, 0), 1);
        due("loan(1, 9)", x.loan(1, 9), 50);
        dueRows("note(.., 4)", Markets.notes(x, 4), 50, 100, 50);
        dueRows("note(.., 1)", Markets.notes(x, 1), 0, 0, 1);
    }

    @Says(in = "Promise 16", value = "all of them, or none. This is one act.")
    static void readFundingsIsOneAct() {
        act("readFundings() of one", () -> withText("0>0s5"), PeerNotes::readFundings, 1);
        act("readFundings() of three", () -> withText("0>0s5;1>0j6;0>0s689"), PeerNotes::readFundings, 3);
    }

    @Says(in = "Promise 16", value = "all of them, or none")
    static void noneIfTheLastOneIsRefused() {
        PeerNotes x = withText("0>0s5;1>0j6;0>0s690");
        List<String> before = Markets.told(x);
        refused("readFundings()", x, PeerNotes::readFundings, NOT_POSSIBLE);
        same("after it", Markets.told(x), before);
        due("undo(): of the act before", x.undo(), 3);
        due("loan(4, 0)", x.loan(4, 0), 0);
    }

    @Says(in = "Promise 16", value = "all of them, or none")
    static void noneIfTheFirstOneIsRefused() {
        PeerNotes x = withText("0>0s701;1>0j6");
        List<String> before = Markets.told(x);
        refused("readFundings()", x, PeerNotes::readFundings, NOT_POSSIBLE);
        same("after it", Markets.told(x), before);
    }

    @Says(in = "Promise 16", value = "all of them, or none")
    static void aRefusedReadingDropsNoState() {
        PeerNotes x = Markets.withInvestors(10);
        for (int i = 1; i <= 3; i++) {
            x.deposit(0, 1);
        }
        x.openLoan(100, 0, 1);
        Markets.write(x, "0>0s5;0>0s9");
        due("count(16)", x.count(16), 4);
        due("readFundings()", x.readFundings(), NOT_POSSIBLE);
        for (int left = 3; left >= 0; left--) {
            due("undo()", x.undo(), left);
        }
        due("investor(0, 0): the oldest state is there still", x.investor(0, 0), 10);
    }

    @Says(in = "Promise 16", value = "-100 minus the fault of the text if it has one (which is an error)")
    static void faultsFrom0To60() {
        PeerNotes x = Markets.withInvestors(100);
        refused("readFundings() of the empty text", x, PeerNotes::readFundings, -100);
        Markets.write(x, "0>0s1?");
        refused("readFundings() with a fault at 5", x, PeerNotes::readFundings, -105);
        Markets.write(x, "0>0s1;0>0s1;0>0s1;0>0s1;0>0s1;0>0s1;0>0s1;0>0s1;0>0s1;0>0s1;");
        refused("readFundings() with a fault at 60", x, PeerNotes::readFundings, -160);
    }

    @Says(in = "Promise 16", value = "otherwise, of the first funding for which it is so when its turn comes, the error that "
        + "fund() returns.")
    static void aFaultIsToldBeforeTheErrorsOfFund() {
        PeerNotes x = Markets.withInvestors(100);
        x.openLoan(100, 0, 1);
        due("read: an unknown investor, then a fault", Markets.read(x, "5>0s1;0>0s0"), -110);
        due("read: too many coins, then a fault", Markets.read(x, "0>0s101;"), -108);
        due("read: an unknown loan, then a text that ends", Markets.read(x, "0>9s1;0>0"), -109);
    }

    @Says(in = "Promise 16", value = "the error that fund() returns")
    static void eachErrorOfFund() {
        PeerNotes x = Markets.ofEachState();
        due("read 2>0s1", Markets.read(x, "2>0s1"), UNKNOWN);
        due("read 0>5s1", Markets.read(x, "0>5s1"), UNKNOWN);
        due("read 0>1s1: it runs", Markets.read(x, "0>1s1"), NOT_POSSIBLE);
        due("read 0>2s1: it is repaid", Markets.read(x, "0>2s1"), NOT_POSSIBLE);
        due("read 0>3s1: it is sold", Markets.read(x, "0>3s1"), NOT_POSSIBLE);
        due("read 0>4s1: it is given up", Markets.read(x, "0>4s1"), NOT_POSSIBLE);
        due("read 0>0s701: not so many are missing", Markets.read(x, "0>0s701"), NOT_POSSIBLE);
        due("read 0>0s99999: not so many are missing", Markets.read(x, "0>0s99999"), NOT_POSSIBLE);
        due("read 0>0s700", Markets.read(x, "0>0s700"), 1);
        PeerNotes full = Markets.sixtyNotes();
        due("read 0>0s1: the 61st note", Markets.read(full, "0>0s1"), FULL);
        due("read 0>0s4941: not so many are missing", Markets.read(full, "0>0s4941"), NOT_POSSIBLE);
    }

    @Says(in = "Promise 16", value = "of the first funding for which it is so when its turn comes")
    static void theFirstOfTwoErrors() {
        PeerNotes x = Markets.withInvestors(100, 100);
        x.openLoan(150, 0, 1);
        due("read: unknown, then not possible", Markets.read(x, "2>0s1;0>0s151"), UNKNOWN);
        due("read: not possible, then unknown", Markets.read(x, "0>0s151;2>0s1"), NOT_POSSIBLE);
        due("read: fine, then unknown, then not possible", Markets.read(x, "0>0s1;0>1s1;0>0s151"), UNKNOWN);
    }

    @Says(in = "Promise 16", value = "when its turn comes")
    static void errorsThatComeFromTheFundingsBefore() {
        PeerNotes x = Markets.withInvestors(100, 100);
        x.openLoan(150, 0, 1);
        due("read: a coin more than is left of the cash", Markets.read(x, "0>0s60;0>0j41"), NOT_POSSIBLE);
        due("read: a coin more than is missing then", Markets.read(x, "0>0s60;1>0j91"), NOT_POSSIBLE);
        due("read: it runs then", Markets.read(x, "0>0s60;1>0j90;1>0s1"), NOT_POSSIBLE);
        due("read: all cash", Markets.read(x, "0>0s60;0>0j40"), 2);
        x.undo();
        due("read: all that is missing", Markets.read(x, "0>0s60;1>0j90"), 2);
    }

    @Says(in = "Promise 16", value = "of the first funding for which it is so when its turn comes")
    static void anErrorOfALaterFundingComesTooLate() {
        PeerNotes x = Markets.withInvestors(100, 100);
        x.openLoan(150, 0, 1);
        // The second one has too few coins when its turn comes; the third one could be refused from the beginning.
        due("read: not possible, then unknown", Markets.read(x, "0>0s60;0>0j41;2>0s1"), NOT_POSSIBLE);
        due("read: it runs then, then unknown", Markets.read(x, "0>0s60;1>0j90;1>0s1;0>1s1"), NOT_POSSIBLE);
        PeerNotes full = Markets.sixtyNotes();
        full.undo();
        due("read: the 61st note, then unknown", Markets.read(full, "0>0s1;0>0s1;0>1s1"), FULL);
        due("read: the 61st note, then not possible", Markets.read(full, "0>0s1;0>0s1;0>0s99999"), FULL);
    }

    @Says(in = "Promise 16", value = "when its turn comes")
    static void theSixtyFirstNoteOfAText() {
        PeerNotes x = Markets.sixtyNotes();
        x.undo();
        x.undo();
        due("count(8)", x.count(8), 58);
        Markets.write(x, "0>0s1;0>0s1;0>0s1");
        refused("readFundings() of three", x, PeerNotes::readFundings, FULL);
        due("count(8)", x.count(8), 58);
        due("read: the 61st, and not so many are missing", Markets.read(x, "0>0s1;0>0s1;0>0s5000"), NOT_POSSIBLE);
        due("read: two", Markets.read(x, "0>0s1;0>0s1"), 2);
        due("count(8)", x.count(8), 60);
    }

    // ---- 17

    @Says(in = "Promise 17", value = "Returns the number of states that are left; NONE if the history is empty.")
    static void undoOf0To4States() {
        for (int acts = 0; acts <= 6; acts++) {
            PeerNotes x = new PeerNotes();
            for (int i = 0; i < acts; i++) {
                x.addInvestor(i);
            }
            int states = Math.min(4, acts);
            for (int left = states - 1; left >= 0; left--) {
                due("undo()", x.undo(), left);
                due("count(16)", x.count(16), left);
            }
            refused("undo() of an empty history", x, PeerNotes::undo, NONE);
            due("count(1)", x.count(1), acts - states);
        }
    }

    @Says(in = "Promise 17", value = "Removes and restores the latest state of the history.")
    static void undoIsNoAct() {
        PeerNotes x = Markets.withInvestors(1, 2);
        due("undo()", x.undo(), 1);
        due("undo(): not the one before", x.undo(), 0);
        due("count(1)", x.count(1), 0);
    }

    @Says(in = "Promise 17", value = "Removes and restores the latest state of the history.")
    static void actsAfterUndo() {
        PeerNotes x = Markets.withInvestors(1, 2, 3, 4);
        x.undo();
        x.undo();
        due("addInvestor(9)", x.addInvestor(9), 2);
        due("count(16)", x.count(16), 3);
        due("undo()", x.undo(), 2);
        due("count(1)", x.count(1), 2);
        due("undo()", x.undo(), 1);
        due("undo()", x.undo(), 0);
        due("undo()", x.undo(), NONE);
        due("count(1)", x.count(1), 0);
    }

    @Says(in = "Promise 17", value = "Removes and restores the latest state of the history.")
    static void notesThatWereUndoneHaveNoWeight() {
        PeerNotes x = Markets.noteByNote(0, 1, 60, 40);
        x.addInvestor(500);
        x.openLoan(500, 0, 1);
        x.fund(2, 1, true, 500);
        due("pay(1, 10): a sharing with note 2", x.pay(1, 10), 490);
        x.undo();
        x.undo();
        due("count(8)", x.count(8), 2);
        due("pay(0, 10)", x.pay(0, 10), 90);
        dueRows("note(.., 3)", Markets.notes(x, 3), 54, 36);
    }

    // ---- 18

    @Says(in = "Promise 18", value = "Returns the number of notes.")
    static void keepOf0To60Notes() {
        due("keep() of 0", new PeerNotes().keep(), 0);
        due("keep() of 6", Markets.ofEachState().keep(), 6);
        PeerNotes x = Markets.sixtyNotes();
        due("keep() of 60", x.keep(), 60);
        x.undo();
        due("keep() of 59", x.keep(), 59);
        x.fund(0, 0, false, 3);
        due("restore()", x.restore(), 59);
    }

    @Says(in = "Promise 18", value = "Takes a snapshot of the state, in place of the one that was.")
    static void inPlaceOfTheOneThatWas() {
        PeerNotes x = Markets.withInvestors(1);
        due("keep()", x.keep(), 0);
        x.addInvestor(2);
        due("keep()", x.keep(), 0);
        x.addInvestor(3);
        due("restore()", x.restore(), 0);
        due("count(1)", x.count(1), 2);
        x.undo();
        x.undo();
        x.undo();
        due("count(1)", x.count(1), 1);
        due("keep() of an earlier state", x.keep(), 0);
        x.setPoolShare(50);
        due("restore()", x.restore(), 0);
        due("count(1)", x.count(1), 1);
        due("count(10)", x.count(10), 5);
    }

    @Says(in = "Promise 18", value = "Takes a snapshot of the state")
    static void keepIsNoActAndIsNotUndone() {
        PeerNotes x = Markets.withInvestors(1);
        noAct("keep()", x, PeerNotes::keep);
        x.addInvestor(2);
        x.undo();
        x.undo();
        due("restore()", x.restore(), 0);
        due("count(1)", x.count(1), 1);
    }

    // ---- 19

    @Says(in = "Promise 19", value = "NONE if there is no snapshot.")
    static void restoreWithoutASnapshot() {
        PeerNotes x = new PeerNotes();
        refused("restore() at first", x, PeerNotes::restore, NONE);
        x.addInvestor(1);
        refused("restore() after an act", x, PeerNotes::restore, NONE);
        due("count(1)", x.count(1), 1);
    }

    @Says(in = "Promise 19", value = "Returns the number of notes then")
    static void restoreOf0To60Notes() {
        PeerNotes x = new PeerNotes();
        x.keep();
        due("restore() of 0", x.restore(), 0);
        PeerNotes y = Markets.sixtyNotes();
        y.keep();
        y.undo();
        due("count(8)", y.count(8), 59);
        due("restore() of 60", y.restore(), 60);
        due("note(59, 3)", y.note(59, 3), 1);
    }

    @Says(in = "Promise 19", value = "Restores the state of the snapshot, which stays.")
    static void theSnapshotStays() {
        PeerNotes x = Markets.ofEachState();
        x.keep();
        List<String> kept = Markets.told(x);
        x.pass(2);
        due("restore()", x.restore(), 6);
        x.giveUp(0);
        x.sell(1, 5);
        x.addInvestor(8);
        due("restore() again", x.restore(), 6);
        same("after two changes and returns", Markets.told(x), kept);
    }

    @Says(in = "Promise 19", value = "Restores the state of the snapshot")
    static void rowsThatWereUsedOtherwiseSince() {
        PeerNotes x = Markets.withInvestors(1000, 1000);
        x.openLoan(500, 10, 5);
        x.openLoan(600, 20, 6);
        x.fund(1, 1, true, 600);
        x.keep();
        for (int i = 0; i < 4; i++) {
            x.undo();
        }
        x.addInvestor(7000);
        x.openLoan(700, 30, 7);
        x.openLoan(800, 40, 8);
        x.fund(0, 0, false, 50);
        due("restore()", x.restore(), 1);
        dueRows("note(0, ..)", Markets.note(x, 0), 1, 1, 1, 600, 600, 0, 0);
        dueRows("loan(0, ..)", Markets.loan(x, 0), 0, 500, 0, NONE, 0, 0, 0, 0, NONE, 500, 0, 0, 0);
        dueRows("investor(.., 0)", Markets.investors(x, 0), 1000, 400);
        due("fund(0, 0, false, 500)", x.fund(0, 0, false, 500), 0);
        due("loan(0, 3): its months", x.loan(0, 3), 100);
        x.pass(1);
        due("loan(0, 4): its rate", x.loan(0, 4), 5);
        due("loan(1, 4): its rate", x.loan(1, 4), 12);
    }

    @Says(in = "Promise 19", value = "This is an act.")
    static void restoreIsAnAct() {
        act("restore()", TextsAndHistoryBoundaries::withAnotherSnapshot, PeerNotes::restore, 0);
        PeerNotes x = new PeerNotes();
        x.keep();
        due("restore() of the same state", x.restore(), 0);
        due("count(16): an act all the same", x.count(16), 1);
    }

    private static PeerNotes withAnotherSnapshot() {
        PeerNotes x = new PeerNotes();
        x.addInvestor(5000);
        x.openLoan(500, 10, 5);
        x.keep();
        x.fund(0, 0, true, 500);
        x.pass(2);
        return x;
    }
}
