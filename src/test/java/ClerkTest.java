/** Promises 9 to 13, the clerk: a test for each sentence, with the boundaries that it names. */
public final class ClerkTest extends Checks {
    // Beside each other, so that some cells get shares from both.
    private static final Calls TWO = x -> {
        x.board(100, 100, 0);
        x.board(60, 60, 7);
    };

    private static final Calls TWO_AND_ONE_ASHORE = x -> {
        TWO.on(x);
        x.board(30, 40, 23);
        x.leave(2);
    };

    // 0 is billed for 118, as 1 beside weighs 130 more than the book has; both are ashore then.
    private static final Calls BILLED_TOO_MUCH = x -> {
        x.board(20, 20, 0);
        x.board(150, 20, 1);
        x.bill(0);
        x.leave(0);
        x.leave(1);
    };

    private static final Calls COMPLAINED = x -> {
        BILLED_TOO_MUCH.on(x);
        x.complain(0);
    };

    public static void main(String[] args) {
        runAll(ClerkTest.class);
    }

    // ---- promise 9: setPrice

    @Sentence("Sets the price.")
    static void promise9_thePriceCountsForLaterBillsAlone() {
        Ferry x = after(TWO);
        x.bill(0);
        x.setPrice(3);
        x.bill(1);
        due(x.count(8), 3);
        due(x.walker(0, 6), 1000);
        due(x.walker(1, 6), 180);
    }

    @Sentence("This is an action.")
    static void promise9_setPriceIsRecorded() {
        recorded(EMPTY_FLOOR, x -> x.setPrice(100), 10);
        recorded(FULL_FLOOR, x -> x.setPrice(0), 10);
    }

    @Sentence("This is an action.")
    static void promise9_theSamePriceIsRecordedToo() {
        recorded(EMPTY_FLOOR, x -> x.setPrice(10), 10);
    }

    @Sentence("price: 0 to 100")
    static void promise9_theLeastPriceIs0() {
        Ferry x = new Ferry();
        due(x.setPrice(0), 10);
        due(x.count(8), 0);
        leavesAll(EMPTY_FLOOR, y -> y.setPrice(-1), INVALID);
        leavesAll(EMPTY_FLOOR, y -> y.setPrice(LOWEST), INVALID);
    }

    @Sentence("price: 0 to 100")
    static void promise9_theGreatestPriceIs100() {
        Ferry x = new Ferry();
        due(x.setPrice(100), 10);
        due(x.count(8), 100);
        leavesAll(EMPTY_FLOOR, y -> y.setPrice(101), INVALID);
        leavesAll(EMPTY_FLOOR, y -> y.setPrice(HIGHEST), INVALID);
    }

    @Sentence("Returns the previous price;")
    static void promise9_thePreviousPriceIsAnswered() {
        Ferry x = new Ferry();
        due(x.setPrice(0), 10);
        due(x.setPrice(100), 0);
        due(x.setPrice(7), 100);
        due(x.undo(), 2);
        due(x.setPrice(8), 100);
    }

    @Sentence("INVALID_ARGUMENT if price is out of range.")
    static void promise9_setPriceIsRefusedOnAFullFloorToo() {
        leavesAll(FULL_FLOOR, x -> x.setPrice(-1), INVALID);
        leavesAll(FULL_FLOOR, x -> x.setPrice(101), INVALID);
    }

    // ---- promise 10: accuse

    private static final String ACCUSE = "Accuses two walkers of having changed places: the book exchanges their cells, "
            + "and both have been accused once more.";

    @Sentence(ACCUSE)
    static void promise10_theBookExchangesTheTwoCellsAndNoOther() {
        Ferry x = after(FULL_FLOOR);
        x.accuse(0, 7);
        due(x.walker(0, 3), 7);
        due(x.walker(7, 3), 0);
        due(x.cell(7, 7), 0);
        due(x.cell(0, 7), 7);
        due(x.walker(0, 2), 20);
        due(x.walker(7, 2), 146);
        for (int walker = 0; walker < 8; walker++) {
            due(x.walker(walker, 1), walker);
        }
        for (int walker = 1; walker < 7; walker++) {
            due(x.walker(walker, 3), walker);
        }
    }

    @Sentence(ACCUSE)
    static void promise10_bothAreAccusedOnceMoreAndNobodyElse() {
        Ferry x = after(FULL_FLOOR);
        x.accuse(0, 7);
        x.accuse(7, 1);
        due(x.walker(0, 4), 1);
        due(x.walker(7, 4), 2);
        due(x.walker(1, 4), 1);
        due(x.walker(2, 4), 0);
        due(x.certainty(7), 80);
        due(x.certainty(2), 100);
    }

    @Sentence(ACCUSE)
    static void promise10_whoIsAccusedMoreThan10TimesIsCounted() {
        Ferry x = after(TWO);
        for (int times = 1; times <= 30; times++) {
            x.accuse(0, 1);
            due(x.walker(0, 4), times);
        }
        due(x.certainty(0), 0);
    }

    @Sentence("This is an action.")
    static void promise10_accuseIsRecorded() {
        recorded(TWO, x -> x.accuse(0, 1), 60);
        recorded(x -> {
            TWO.on(x);
            x.accuse(0, 1);
        }, x -> x.accuse(1, 0), 0);
    }

    @Sentence("one: a walker")
    static void promise10_oneIsTheFirstOrTheLast() {
        Ferry x = after(FULL_FLOOR);
        x.accuse(0, 3);
        due(x.walker(0, 3), 3);
        x.accuse(7, 3);
        due(x.walker(7, 3), 0);
        due(x.walker(3, 3), 7);
    }

    @Sentence("one: a walker")
    static void promise10_oneIsNobodyBelow0OrBeyondTheLast() {
        leavesAll(FULL_FLOOR, x -> x.accuse(-1, 0), INVALID);
        leavesAll(FULL_FLOOR, x -> x.accuse(8, 0), INVALID);
        leavesAll(TWO, x -> x.accuse(2, 0), INVALID);
        leavesAll(TWO, x -> x.accuse(LOWEST, 0), INVALID);
        leavesAll(TWO, x -> x.accuse(HIGHEST, 0), INVALID);
    }

    @Sentence("other: another walker")
    static void promise10_otherIsTheFirstOrTheLast() {
        Ferry x = after(FULL_FLOOR);
        x.accuse(3, 0);
        due(x.walker(0, 3), 3);
        x.accuse(3, 7);
        due(x.walker(7, 3), 0);
        due(x.walker(3, 3), 7);
    }

    @Sentence("other: another walker")
    static void promise10_otherIsNobodyBelow0OrBeyondTheLast() {
        leavesAll(FULL_FLOOR, x -> x.accuse(0, -1), INVALID);
        leavesAll(FULL_FLOOR, x -> x.accuse(0, 8), INVALID);
        leavesAll(TWO, x -> x.accuse(0, 2), INVALID);
        leavesAll(TWO, x -> x.accuse(0, LOWEST), INVALID);
        leavesAll(TWO, x -> x.accuse(0, HIGHEST), INVALID);
    }

    @Sentence("Returns the error of the book then;")
    static void promise10_theErrorOfAFalseAccusationIsAnswered() {
        Ferry x = after(TWO);
        due(x.accuse(0, 1), 60);
        due(x.count(4), 60);
    }

    @Sentence("Returns the error of the book then;")
    static void promise10_theErrorIs0WhenTheAccusationIsTrue() {
        Ferry x = after(TWO);
        due(x.swap(0, 1), 60);
        due(x.accuse(0, 1), 0);
        due(x.count(7), 0);
    }

    @Sentence("INVALID_ARGUMENT if there are no such walkers, or both are the same;")
    static void promise10_nobodyIsAccusedAlone() {
        leavesAll(TWO, x -> x.accuse(0, 0), INVALID);
        leavesAll(FULL_FLOOR, x -> x.accuse(7, 7), INVALID);
        leavesAll(TWO_AND_ONE_ASHORE, x -> x.accuse(2, 2), INVALID);
    }

    @Sentence("INVALID_ARGUMENT if there are no such walkers, or both are the same;")
    static void promise10_nobodyIsAccusedOnAnEmptyFloor() {
        leavesAll(EMPTY_FLOOR, x -> x.accuse(0, 1), INVALID);
        leavesAll(EMPTY_FLOOR, x -> x.accuse(0, 0), INVALID);
        leavesAll(TWO, x -> x.accuse(2, 3), INVALID);
    }

    @Sentence("INVALID_ARGUMENT if there are no such walkers, or both are the same;")
    static void promise10_noSuchWalkerIsToldBeforeOneAshore() {
        leavesAll(TWO_AND_ONE_ASHORE, x -> x.accuse(2, 3), INVALID);
        leavesAll(TWO_AND_ONE_ASHORE, x -> x.accuse(-1, 2), INVALID);
    }

    @Sentence("ILLEGAL_STATE if one of them is ashore.")
    static void promise10_nobodyAshoreIsAccused() {
        leavesAll(TWO_AND_ONE_ASHORE, x -> x.accuse(0, 2), ILLEGAL);
        leavesAll(TWO_AND_ONE_ASHORE, x -> x.accuse(2, 0), ILLEGAL);
        leavesAll(BILLED_TOO_MUCH, x -> x.accuse(0, 1), ILLEGAL);
    }

    // ---- promise 11: bill

    @Sentence("Writes a bill for a walker.")
    static void promise11_theBillHasKilogramsAndAnAmount() {
        Ferry x = after(TWO);
        x.setPrice(7);
        x.bill(1);
        due(x.walker(1, 5), 60);
        due(x.walker(1, 6), 420);
        due(x.walker(0, 5), NONE);
        due(x.walker(0, 6), 0);
        due(x.count(9), 60);
        due(x.count(10), 420);
        due(x.count(11), 0);
    }

    @Sentence("Writes a bill for a walker.")
    static void promise11_aBillAtThePrice0IsABill() {
        Calls billedForNothing = x -> {
            TWO.on(x);
            x.setPrice(0);
            x.bill(0);
        };
        Ferry x = after(billedForNothing);
        due(x.walker(0, 5), 100);
        due(x.walker(0, 6), 0);
        leavesAll(billedForNothing, y -> y.bill(0), ILLEGAL);
    }

    @Sentence("This is an action.")
    static void promise11_billIsRecorded() {
        recorded(TWO, x -> x.bill(1), 60);
        recorded(FULL_FLOOR, x -> x.bill(7), 146);
    }

    @Sentence("This is an action.")
    static void promise11_aBillFor0IsRecorded() {
        recorded(x -> {
            TWO.on(x);
            x.pass(20);
        }, x -> x.bill(0), 0);
    }

    @Sentence("walker: a walker")
    static void promise11_theFirstAndTheLastAreBilled() {
        Ferry x = after(FULL_FLOOR);
        due(x.bill(0), 20);
        due(x.bill(7), 146);
    }

    @Sentence("Returns the kilograms that are billed;")
    static void promise11_allOfAFullFloorAreBilledForTheirWeights() {
        Ferry x = after(FULL_FLOOR);
        for (int walker = 7; walker >= 0; walker--) {
            due(x.bill(walker), 20 + 18 * walker);
        }
        due(x.count(9), 664);
        due(x.count(5), 664);
    }

    @Sentence("Returns the kilograms that are billed;")
    static void promise11_kilogramsAreAnsweredWhateverThePrice() {
        Ferry x = after(TWO);
        x.setPrice(0);
        due(x.bill(0), 100);
        x.setPrice(100);
        due(x.bill(1), 60);
    }

    @Sentence("Returns the kilograms that are billed;")
    static void promise11_1And0AreAnsweredAtLittleCertainty() {
        Ferry x = new Ferry();
        x.board(20, 20, 0);
        x.board(20, 20, 23);
        x.pass(19);
        due(x.bill(0), 1);
        x.pass(1);
        due(x.bill(1), 0);
    }

    @Sentence("INVALID_ARGUMENT if there is no such walker;")
    static void promise11_nobodyBelow0OrBeyondTheLast() {
        leavesAll(EMPTY_FLOOR, x -> x.bill(0), INVALID);
        leavesAll(TWO, x -> x.bill(-1), INVALID);
        leavesAll(TWO, x -> x.bill(2), INVALID);
        leavesAll(TWO, x -> x.bill(LOWEST), INVALID);
        leavesAll(TWO, x -> x.bill(HIGHEST), INVALID);
        leavesAll(FULL_FLOOR, x -> x.bill(8), INVALID);
    }

    @Sentence("ILLEGAL_STATE if the walker is ashore or has a bill.")
    static void promise11_nobodyAshoreIsBilled() {
        leavesAll(TWO_AND_ONE_ASHORE, x -> x.bill(2), ILLEGAL);
        leavesAll(BILLED_TOO_MUCH, x -> x.bill(0), ILLEGAL);
        leavesAll(BILLED_TOO_MUCH, x -> x.bill(1), ILLEGAL);
        leavesAll(COMPLAINED, x -> x.bill(0), ILLEGAL);
    }

    @Sentence("ILLEGAL_STATE if the walker is ashore or has a bill.")
    static void promise11_nobodyIsBilledTwice() {
        leavesAll(x -> {
            TWO.on(x);
            x.bill(0);
        }, x -> x.bill(0), ILLEGAL);
    }

    @Sentence("ILLEGAL_STATE if the walker is ashore or has a bill.")
    static void promise11_whoseBillIsUndoneIsBilledAgain() {
        Ferry x = after(TWO);
        due(x.bill(0), 100);
        x.undo();
        due(x.walker(0, 5), NONE);
        due(x.bill(0), 100);
    }

    // ---- promise 12: complain

    @Sentence("Lets a walker complain.")
    static void promise12_whatIsGivenBackIsCounted() {
        Ferry x = after(BILLED_TOO_MUCH);
        due(x.count(9), 118);
        x.complain(0);
        due(x.count(9), 20);
        due(x.count(10), 1180);
        due(x.count(11), 980);
        due(x.walker(0, 5), 118);
        due(x.walker(0, 6), 1180);
        due(x.walker(0, 7), 980);
        due(x.walker(1, 7), 0);
    }

    @Sentence("This is an action.")
    static void promise12_complainIsRecorded() {
        recorded(BILLED_TOO_MUCH, x -> x.complain(0), 980);
    }

    @Sentence("This is an action.")
    static void promise12_aComplaintThatGivesNothingBackIsRecorded() {
        recorded(x -> {
            TWO.on(x);
            x.bill(0);
            x.leave(0);
        }, x -> x.complain(0), 0);
    }

    @Sentence("walker: a walker")
    static void promise12_theFirstAndTheLastComplain() {
        Ferry x = after(FULL_FLOOR);
        x.bill(0);
        x.bill(7);
        x.leave(0);
        x.leave(7);
        due(x.complain(0), 0);
        due(x.complain(7), 0);
    }

    @Sentence("Returns the amount that is given back;")
    static void promise12_theAmountIsAtThePriceOfTheBill() {
        Ferry x = new Ferry();
        x.board(20, 20, 0);
        x.board(150, 20, 1);
        x.setPrice(100);
        x.bill(0);
        x.setPrice(1);
        x.leave(0);
        due(x.complain(0), 9800);
    }

    @Sentence("Returns the amount that is given back;")
    static void promise12_atThePrice0KilogramsAreGivenBackAndNoAmount() {
        Ferry x = new Ferry();
        x.board(20, 20, 0);
        x.board(150, 20, 1);
        x.setPrice(0);
        x.bill(0);
        x.setPrice(100);
        x.leave(0);
        due(x.complain(0), 0);
        due(x.count(9), 20);
        due(x.walker(0, 7), 0);
        due(x.complain(0), ILLEGAL);
    }

    @Sentence("Returns the amount that is given back;")
    static void promise12_nothingIsGivenBackOfABillFor0() {
        Ferry x = after(TWO);
        x.pass(20);
        due(x.bill(0), 0);
        x.leave(0);
        due(x.complain(0), 0);
        due(x.count(9), 0);
    }

    @Sentence("INVALID_ARGUMENT if there is no such walker;")
    static void promise12_nobodyBelow0OrBeyondTheLast() {
        leavesAll(EMPTY_FLOOR, x -> x.complain(0), INVALID);
        leavesAll(BILLED_TOO_MUCH, x -> x.complain(-1), INVALID);
        leavesAll(BILLED_TOO_MUCH, x -> x.complain(2), INVALID);
        leavesAll(BILLED_TOO_MUCH, x -> x.complain(LOWEST), INVALID);
        leavesAll(BILLED_TOO_MUCH, x -> x.complain(HIGHEST), INVALID);
        leavesAll(FULL_FLOOR, x -> x.complain(8), INVALID);
    }

    @Sentence("ILLEGAL_STATE if the walker is aboard, has no bill, or has complained already.")
    static void promise12_nobodyAboardComplains() {
        leavesAll(TWO, x -> x.complain(0), ILLEGAL);
        leavesAll(x -> {
            TWO.on(x);
            x.bill(0);
        }, x -> x.complain(0), ILLEGAL);
    }

    @Sentence("ILLEGAL_STATE if the walker is aboard, has no bill, or has complained already.")
    static void promise12_nobodyComplainsWithoutABill() {
        leavesAll(BILLED_TOO_MUCH, x -> x.complain(1), ILLEGAL);
        leavesAll(TWO_AND_ONE_ASHORE, x -> x.complain(2), ILLEGAL);
    }

    @Sentence("ILLEGAL_STATE if the walker is aboard, has no bill, or has complained already.")
    static void promise12_nobodyComplainsTwice() {
        leavesAll(COMPLAINED, x -> x.complain(0), ILLEGAL);
        leavesAll(x -> {
            TWO.on(x);
            x.bill(0);
            x.leave(0);
            x.complain(0);
        }, x -> x.complain(0), ILLEGAL);
    }

    @Sentence("ILLEGAL_STATE if the walker is aboard, has no bill, or has complained already.")
    static void promise12_whoseComplaintIsUndoneComplainsAgain() {
        Ferry x = after(COMPLAINED);
        x.undo();
        due(x.count(11), 0);
        due(x.complain(0), 980);
    }

    // ---- promise 13: undo

    @Sentence("Removes the latest state from the history and restores it.")
    static void promise13_fiveStatesAreRestoredInTheirOrder() {
        Ferry x = new Ferry();
        for (int minute = 1; minute <= 5; minute++) {
            x.pass(1);
        }
        for (int minute = 4; minute >= 0; minute--) {
            x.undo();
            due(x.count(0), minute);
            due(x.count(3), minute);
        }
    }

    @Sentence("Removes the latest state from the history and restores it.")
    static void promise13_ofSixStatesTheFirstIsLost() {
        Ferry x = new Ferry();
        for (int minute = 1; minute <= 6; minute++) {
            x.pass(1);
        }
        for (int minute = 5; minute >= 1; minute--) {
            x.undo();
            due(x.count(0), minute);
        }
        due(x.undo(), ILLEGAL);
        due(x.count(0), 1);
    }

    @Sentence("Removes the latest state from the history and restores it.")
    static void promise13_ofManyStatesTheLastFiveAreKept() {
        // Behind each number of actions all that is kept is undone: the oldest may be anywhere in its place.
        for (int actions = 1; actions <= 17; actions++) {
            Ferry x = new Ferry();
            for (int minute = 1; minute <= actions; minute++) {
                x.pass(1);
            }
            int kept = Math.min(5, actions);
            for (int left = kept - 1; left >= 0; left--) {
                due(x.undo(), left);
                due(x.count(0), actions - kept + left);
            }
            due(x.undo(), ILLEGAL);
        }
    }

    @Sentence("Removes the latest state from the history and restores it.")
    static void promise13_anUndoIsNotUndone() {
        Ferry x = new Ferry();
        x.pass(1);
        x.pass(2);
        due(x.undo(), 1);
        due(x.undo(), 0);
        due(x.undo(), ILLEGAL);
        due(x.count(0), 0);
    }

    @Sentence("Removes the latest state from the history and restores it.")
    static void promise13_actionsAfterAnUndoAreRecordedAnew() {
        Ferry x = new Ferry();
        for (int minute = 1; minute <= 6; minute++) {
            x.pass(1);
        }
        x.undo();
        x.undo();
        x.setPrice(1);
        x.setPrice(2);
        x.setPrice(3);
        due(x.count(3), 5);
        due(x.count(0), 4);
        due(x.undo(), 4);
        due(x.count(8), 2);
        due(x.undo(), 3);
        due(x.undo(), 2);
        due(x.count(8), 10);
        due(x.count(0), 4);
        due(x.undo(), 1);
        due(x.count(0), 3);
        due(x.undo(), 0);
        due(x.count(0), 2);
        due(x.undo(), ILLEGAL);
    }

    @Sentence("Removes the latest state from the history and restores it.")
    static void promise13_anUndoneStateIsNotTouchedByWhatFollows() {
        Ferry x = after(TWO);
        x.undo();
        x.board(90, 90, 23);
        x.walk(0, 5);
        due(x.undo(), 2);
        due(x.walker(0, 1), 0);
        due(x.walker(1, 1), 23);
        due(x.undo(), 1);
        due(x.walker(1, 1), INVALID);
        due(x.walker(0, 1), 0);
        due(x.undo(), 0);
        due(x.walker(0, 1), INVALID);
    }

    @Sentence("Returns the number of states that are left in the history;")
    static void promise13_4To0AreAnswered() {
        Ferry x = after(FULL_FLOOR);
        for (int left = 4; left >= 0; left--) {
            due(x.undo(), left);
            due(x.count(3), left);
            due(x.count(1), 3 + left);
        }
    }

    @Sentence("ILLEGAL_STATE if it is empty.")
    static void promise13_nothingToUndoOnANewObject() {
        leavesAllKept(EMPTY_FLOOR, x -> x.undo(), ILLEGAL);
    }

    @Sentence("ILLEGAL_STATE if it is empty.")
    static void promise13_nothingToUndoWhenAllIsUndone() {
        Calls allUndone = x -> {
            FULL_FLOOR.on(x);
            for (int undone = 0; undone < 5; undone++) {
                x.undo();
            }
        };
        Ferry x = after(allUndone);
        due(x.undo(), ILLEGAL);
        due(x.undo(), ILLEGAL);
        due(x.count(1), 3);
        due(x.count(3), 0);
        leavesAllKept(allUndone, y -> y.undo(), ILLEGAL);
    }

    @Sentence("ILLEGAL_STATE if it is empty.")
    static void promise13_nothingToUndoBehindRefusedCallsAlone() {
        Ferry x = new Ferry();
        x.setDrift(24, 0);
        x.pass(0);
        x.tare(-1);
        x.board(19, 20, 0);
        x.walk(0, 0);
        x.swap(0, 1);
        x.leave(0);
        x.setPrice(101);
        x.accuse(0, 1);
        x.bill(0);
        x.complain(0);
        due(x.undo(), ILLEGAL);
        due(x.count(3), 0);
    }
}
