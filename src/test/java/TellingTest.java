/** Promises 17 to 22, what the clerk can tell: a test for each sentence, with the boundaries that it names. */
public final class TellingTest extends Checks {
    private static final Calls ONE = x -> x.board(100, 80, 8);

    // Beside each other, so that some cells get shares from both.
    private static final Calls TWO = x -> {
        x.board(100, 100, 0);
        x.board(60, 60, 7);
    };

    private static final Calls TWO_AND_ONE_ASHORE = x -> {
        TWO.on(x);
        x.board(30, 40, 23);
        x.leave(2);
    };

    // In the four corners, where nobody shares a cell with another.
    private static final Calls FOUR_CORNERS = x -> {
        x.board(40, 40, 0);
        x.board(24, 24, 5);
        x.board(104, 104, 18);
        x.board(120, 120, 23);
    };

    private static final Calls TWO_SWAPPED = x -> {
        TWO.on(x);
        x.swap(0, 1);
    };

    private static final Calls ALL_SWAPPED = x -> {
        FULL_FLOOR.on(x);
        for (int walker = 0; walker < 8; walker += 2) {
            x.swap(walker, walker + 1);
        }
    };

    public static void main(String[] args) {
        runAll(TellingTest.class);
    }

    private static void tareAll(Ferry x, int... cells) {
        for (int cell : cells) {
            x.tare(cell);
        }
    }

    // ---- promise 17: estimate

    @Sentence("Returns the estimate for a walker.")
    static void promise17_theEstimateIsByTheCellInTheBook() {
        Ferry x = after(TWO_SWAPPED);
        // By the book 0 is on the cell 0. There stand 60, and on the cells 1 and 6 12 each of 100;
        // the book has 7 of 60 on each of these two.
        due(x.estimate(0), 60 + 24 - 14);
        // By the book 1 is on the cell 7. There stand 100, and 7 of 60 on the cells 1 and 6 each; the book has 12.
        due(x.estimate(1), 100 + 14 - 24);
    }

    @Sentence("Returns the estimate for a walker.")
    static void promise17_theEstimateChangesNothing() {
        leavesAll(TWO_SWAPPED, x -> x.estimate(0), 70);
        leavesAll(ONE, x -> x.estimate(0), 100);
    }

    @Sentence("walker: a walker")
    static void promise17_theFirstAndTheLast() {
        Ferry x = after(FULL_FLOOR);
        due(x.estimate(0), 20);
        due(x.estimate(7), 146);
    }

    @Sentence("Returns the estimate;")
    static void promise17_theEstimateIs0OrMore() {
        Ferry x = after(ONE);
        for (int cell : new int[] {8, 2, 14, 7, 9}) {
            x.setDrift(cell, -1);
        }
        x.pass(19);
        due(x.estimate(0), 5);
        x.pass(1);
        due(x.estimate(0), 0);
        x.pass(1);
        due(x.estimate(0), 0);
    }

    @Sentence("Returns the estimate;")
    static void promise17_theEstimateCanBeMoreThanAnyoneWeighs() {
        Ferry x = after(ONE);
        for (int cell : new int[] {8, 2, 14, 7, 9}) {
            x.setDrift(cell, 3);
        }
        passTo(x, 2000);
        due(x.estimate(0), 100 + 5 * 6000);
        due(x.bill(0), 0);
    }

    @Sentence("INVALID_ARGUMENT if there is no such walker;")
    static void promise17_nobodyBelow0OrBeyondTheLast() {
        leavesAll(EMPTY_FLOOR, x -> x.estimate(0), INVALID);
        leavesAll(TWO, x -> x.estimate(-1), INVALID);
        leavesAll(TWO, x -> x.estimate(2), INVALID);
        leavesAll(TWO, x -> x.estimate(LOWEST), INVALID);
        leavesAll(TWO, x -> x.estimate(HIGHEST), INVALID);
        leavesAll(FULL_FLOOR, x -> x.estimate(8), INVALID);
    }

    @Sentence("ILLEGAL_STATE if the walker is ashore.")
    static void promise17_noEstimateForWhoIsAshore() {
        leavesAll(TWO_AND_ONE_ASHORE, x -> x.estimate(2), ILLEGAL);
    }

    // ---- promise 18: certainty

    @Sentence("Returns the certainty of the estimate for a walker.")
    static void promise18_theCertaintyIsByTheCellInTheBook() {
        Ferry x = new Ferry();
        x.pass(1);
        tareAll(x, 0, 1, 6);
        x.pass(1);
        FOUR_CORNERS.on(x);
        x.swap(0, 3);
        due(x.certainty(0), 95);
        due(x.certainty(3), 90);
        x.accuse(0, 3);
        due(x.certainty(0), 80);
        due(x.certainty(3), 85);
    }

    @Sentence("Returns the certainty of the estimate for a walker.")
    static void promise18_theCertaintyChangesNothing() {
        leavesAll(TWO_SWAPPED, x -> x.certainty(1), 100);
    }

    @Sentence("walker: a walker")
    static void promise18_theFirstAndTheLast() {
        Ferry x = after(FULL_FLOOR);
        x.accuse(0, 1);
        due(x.certainty(0), 90);
        due(x.certainty(7), 100);
    }

    @Sentence("Returns the certainty;")
    static void promise18_theCertaintyIs100To0() {
        Ferry x = after(TWO);
        due(x.certainty(0), 100);
        x.pass(19);
        due(x.certainty(0), 5);
        x.pass(1);
        due(x.certainty(0), 0);
        x.pass(60);
        x.accuse(0, 1);
        due(x.certainty(0), 0);
    }

    @Sentence("Returns the certainty;")
    static void promise18_theCertaintyIs0AtTheLastMinute() {
        Ferry x = after(TWO);
        passTo(x, 2000);
        due(x.certainty(1), 0);
    }

    @Sentence("Returns the certainty;")
    static void promise18_theCertaintyIs100AfterNewTaresAtTheLastMinute() {
        Ferry x = after(LAST_MINUTE);
        tareAll(x, 8, 2, 14, 7, 9);
        ONE.on(x);
        due(x.certainty(0), 100);
    }

    @Sentence("INVALID_ARGUMENT if there is no such walker;")
    static void promise18_nobodyBelow0OrBeyondTheLast() {
        leavesAll(EMPTY_FLOOR, x -> x.certainty(0), INVALID);
        leavesAll(TWO, x -> x.certainty(-1), INVALID);
        leavesAll(TWO, x -> x.certainty(2), INVALID);
        leavesAll(TWO, x -> x.certainty(LOWEST), INVALID);
        leavesAll(TWO, x -> x.certainty(HIGHEST), INVALID);
        leavesAll(FULL_FLOOR, x -> x.certainty(8), INVALID);
    }

    @Sentence("ILLEGAL_STATE if the walker is ashore.")
    static void promise18_noCertaintyForWhoIsAshore() {
        leavesAll(TWO_AND_ONE_ASHORE, x -> x.certainty(2), ILLEGAL);
    }

    // ---- promise 19: guess

    private static final String GUESS = "Guesses which two walkers aboard have changed places: the two by whose exchange "
            + "in the book its error would become least, if it would be less than it is, of several the two with the "
            + "smallest lower number, then with the smallest other one.";

    @Sentence(GUESS)
    static void promise19_everyTwoOfAFullFloorAreGuessed() {
        for (int one = 0; one < 8; one++) {
            for (int other = one + 1; other < 8; other++) {
                Ferry x = after(FULL_FLOOR);
                x.swap(other, one);
                due(x.guess(0), 10 * one + other);
                due(x.guess(1), 0);
            }
        }
    }

    @Sentence(GUESS)
    static void promise19_theTwoWithTheLeastErrorNotTheFirstTwo() {
        Ferry x = after(FOUR_CORNERS);
        x.swap(0, 1);
        x.swap(2, 3);
        // 24 for 40 and 120 for 104: 16 for each corner, and 0 and 1 are as good as 2 and 3.
        due(x.count(4), 64);
        due(x.guess(0), 1);
        x.undo();
        x.undo();
        x.swap(0, 1);
        x.swap(0, 3);
        // Now 24 stand on the cell 0, 120 on 5 and 40 on 23: the error is 16 + 96 + 80. With 0 and 1 exchanged
        // it would be 0 + 80 + 80, with 1 and 3 exchanged 16 + 0 + 16.
        due(x.count(4), 192);
        due(x.guess(0), 13);
        due(x.guess(1), 32);
    }

    @Sentence(GUESS)
    static void promise19_theErrorMustBecomeLess() {
        // A zero of -1 on the cell 0, where 21 stand for 20: the exchange would only move the error of 1.
        Ferry x = new Ferry();
        x.setDrift(0, -1);
        x.pass(1);
        x.board(20, 20, 0);
        x.board(21, 21, 23);
        x.swap(0, 1);
        due(x.count(4), 1);
        due(x.guess(0), NONE);
        due(x.mend(0), 0);
        x.undo();
        due(x.count(4), 1);
        due(x.guess(0), NONE);
    }

    @Sentence(GUESS)
    static void promise19_anErrorThatIsLessByLittleIsEnough() {
        Ferry x = new Ferry();
        x.board(20, 20, 0);
        x.board(21, 21, 23);
        x.swap(0, 1);
        due(x.count(4), 2);
        due(x.guess(0), 1);
        due(x.guess(1), 0);
    }

    @Sentence(GUESS)
    static void promise19_ofSeveralTheSmallestLowerNumber() {
        Ferry x = after(FOUR_CORNERS);
        x.swap(0, 3);
        x.swap(1, 2);
        // Both weigh 80 more and 80 less than the book has: 0 and 3 are as good as 1 and 2.
        due(x.count(4), 320);
        due(x.guess(0), 3);
        due(x.guess(1), 160);
    }

    @Sentence(GUESS)
    static void promise19_thenTheSmallestOtherNumber() {
        Ferry x = new Ferry();
        x.board(40, 40, 0);
        x.board(40, 40, 5);
        x.board(120, 120, 18);
        x.board(120, 120, 23);
        x.swap(0, 3);
        x.swap(1, 2);
        // 0 with 2, 0 with 3, 1 with 2 and 1 with 3 are all as good.
        due(x.count(4), 320);
        due(x.guess(0), 2);
        due(x.guess(1), 160);
    }

    @Sentence(GUESS)
    static void promise19_whoIsAshoreIsNotGuessed() {
        Ferry x = new Ferry();
        x.board(100, 50, 0);
        x.board(100, 100, 10);
        x.leave(1);
        due(x.count(4), 50);
        due(x.guess(0), NONE);
        x.board(100, 100, 10);
        // Between 0 and 2 the exchange would move the error; nobody is better.
        due(x.guess(0), NONE);
    }

    @Sentence(GUESS)
    static void promise19_whoIsAshoreIsNotGuessedAsTheLowerNumberEither() {
        Ferry x = new Ferry();
        x.board(100, 100, 10);
        x.board(100, 50, 0);
        x.leave(0);
        due(x.count(4), 50);
        due(x.guess(0), NONE);
        due(x.mend(0), 0);
    }

    @Sentence(GUESS)
    static void promise19_theGuessChangesNothing() {
        leavesAll(TWO_SWAPPED, x -> x.guess(0), 1);
        leavesAll(TWO_SWAPPED, x -> x.guess(1), 0);
    }

    @Sentence("what: 0 ten times the lower number and the other one,")
    static void promise19_1IsTheLeastPairAnd67TheGreatest() {
        Ferry x = after(FULL_FLOOR);
        x.swap(1, 0);
        due(x.guess(0), 1);
        x.undo();
        x.swap(7, 6);
        due(x.guess(0), 67);
    }

    @Sentence("1 the error that the book would have")
    static void promise19_theErrorIsThatBehindTheAccusation() {
        Ferry x = after(FOUR_CORNERS);
        x.swap(0, 3);
        x.swap(1, 2);
        due(x.guess(1), 160);
        due(x.accuse(0, 3), 160);
        due(x.guess(1), 0);
        due(x.accuse(1, 2), 0);
        due(x.guess(1), NONE);
    }

    @Sentence("Returns it;")
    static void promise19_theLeastErrorIs0() {
        due(after(TWO_SWAPPED).guess(1), 0);
        due(after(TWO_SWAPPED).guess(0), 1);
    }

    @Sentence("INVALID_ARGUMENT if what is out of range;")
    static void promise19_noWhatBelow0OrAbove1() {
        leavesAll(EMPTY_FLOOR, x -> x.guess(-1), INVALID);
        leavesAll(EMPTY_FLOOR, x -> x.guess(2), INVALID);
        leavesAll(EMPTY_FLOOR, x -> x.guess(LOWEST), INVALID);
        leavesAll(EMPTY_FLOOR, x -> x.guess(HIGHEST), INVALID);
        leavesAll(TWO_SWAPPED, x -> x.guess(2), INVALID);
    }

    @Sentence("NONE if no exchange makes the error less.")
    static void promise19_noneOnAnEmptyFloorAndForOneWalker() {
        leavesAll(EMPTY_FLOOR, x -> x.guess(0), NONE);
        leavesAll(EMPTY_FLOOR, x -> x.guess(1), NONE);
        leavesAll(ONE, x -> x.guess(0), NONE);
        leavesAll(ONE, x -> x.guess(1), NONE);
    }

    @Sentence("NONE if no exchange makes the error less.")
    static void promise19_noneIfTheBookIsRight() {
        leavesAll(FULL_FLOOR, x -> x.guess(0), NONE);
        leavesAll(FULL_FLOOR, x -> x.guess(1), NONE);
    }

    // ---- promise 20: mend

    private static final String MEND = "Tells how many exchanges the clerk would enter one after the other, each as "
            + "guess() tells it, until no one makes the error less.";

    @Sentence(MEND)
    static void promise20_theClerkWhoEntersEachGuessComesToTheSame() {
        int[][] rings = {{0, 1}, {0, 1, 2}, {7, 3, 5, 1}, {0, 1, 2, 3, 4, 5, 6, 7}, {7, 5, 3, 1, 0, 2, 4, 6}};
        for (int[] ring : rings) {
            Ferry x = after(FULL_FLOOR);
            for (int index = 1; index < ring.length; index++) {
                x.swap(ring[index - 1], ring[index]);
            }
            int exchanges = x.mend(0);
            int error = x.mend(1);
            int entered = 0;
            for (int pair = x.guess(0); pair != NONE && entered < 40; pair = x.guess(0)) {
                x.accuse(pair / 10, pair % 10);
                entered++;
            }
            due(x.mend(0), 0);
            due(x.mend(1), error);
            due(x.count(4), error);
            if (entered != exchanges) {
                fail(entered + " exchanges were entered, and " + exchanges + " told first: " + Ferry.latestRun());
            }
        }
    }

    @Sentence(MEND)
    static void promise20_mendChangesNothing() {
        leavesAll(ALL_SWAPPED, x -> x.mend(0), 4);
        leavesAll(ALL_SWAPPED, x -> x.mend(1), 0);
    }

    @Sentence("what: 0 how many,")
    static void promise20_noExchangeOnAnEmptyFloorOrIfTheBookIsRight() {
        due(new Ferry().mend(0), 0);
        due(after(ONE).mend(0), 0);
        due(after(FULL_FLOOR).mend(0), 0);
    }

    @Sentence("what: 0 how many,")
    static void promise20_1To4ExchangesForAsManyChanges() {
        Ferry x = after(FULL_FLOOR);
        for (int walker = 0; walker < 8; walker += 2) {
            x.swap(walker, walker + 1);
            due(x.mend(0), walker / 2 + 1);
            due(x.mend(1), 0);
        }
    }

    @Sentence("what: 0 how many,")
    static void promise20_2ExchangesForARingOfThree() {
        Ferry x = after(FOUR_CORNERS);
        x.swap(0, 1);
        x.swap(1, 3);
        due(x.mend(0), 2);
        due(x.mend(1), 0);
    }

    @Sentence("1 the error of the book then")
    static void promise20_theErrorThatNoExchangeExplainsStays() {
        due(new Ferry().mend(1), 0);
        due(after(ONE).mend(1), 20);
        Ferry x = after(FOUR_CORNERS);
        x.setDrift(14, 3);
        x.pass(2);
        x.swap(0, 3);
        due(x.count(4), 166);
        due(x.mend(0), 1);
        due(x.mend(1), 6);
    }

    @Sentence("Returns the number;")
    static void promise20_theNumberIs0AndNeverNone() {
        due(new Ferry().mend(0), 0);
        due(new Ferry().mend(1), 0);
    }

    @Sentence("INVALID_ARGUMENT if what is out of range.")
    static void promise20_noWhatBelow0OrAbove1() {
        leavesAll(EMPTY_FLOOR, x -> x.mend(-1), INVALID);
        leavesAll(EMPTY_FLOOR, x -> x.mend(2), INVALID);
        leavesAll(EMPTY_FLOOR, x -> x.mend(LOWEST), INVALID);
        leavesAll(EMPTY_FLOOR, x -> x.mend(HIGHEST), INVALID);
        leavesAll(TWO_SWAPPED, x -> x.mend(2), INVALID);
    }

    // ---- promise 21: bestCell

    private static final String BEST = "Finds the free cell on which a new walker would be weighed best: that for which "
            + "the earliest minute of the tares of the cell and its neighbors is latest, of several the one with the "
            + "smallest number.";

    @Sentence(BEST)
    static void promise21_theSmallestOfEqualCells() {
        due(new Ferry().bestCell(), 0);
        Ferry x = new Ferry();
        passTo(x, 60);
        for (int cell = 23; cell >= 0; cell--) {
            x.tare(cell);
        }
        due(x.bestCell(), 0);
    }

    @Sentence(BEST)
    static void promise21_theSmallestFreeOneOfEqualCells() {
        due(after(FULL_FLOOR).bestCell(), 8);
        Ferry x = after(FULL_FLOOR);
        x.leave(3);
        due(x.bestCell(), 3);
        x.walk(0, 23);
        due(x.bestCell(), 0);
    }

    @Sentence(BEST)
    static void promise21_theLastCellIfItIsTheBest() {
        Ferry x = new Ferry();
        x.pass(1);
        tareAll(x, 23, 22, 17);
        due(x.bestCell(), 23);
    }

    @Sentence(BEST)
    static void promise21_oneEarlyTareOfTheCellOrANeighborIsEnough() {
        int[] around = {8, 2, 14, 7, 9};
        for (int missing : around) {
            Ferry x = new Ferry();
            x.pass(1);
            for (int cell : around) {
                if (cell != missing) {
                    x.tare(cell);
                }
            }
            due(x.bestCell(), 0);
            x.tare(missing);
            due(x.bestCell(), 8);
        }
    }

    @Sentence(BEST)
    static void promise21_oneLateTareAloneIsNotEnough() {
        for (int cell = 0; cell < 24; cell++) {
            Ferry x = new Ferry();
            x.pass(1);
            x.tare(cell);
            due(x.bestCell(), 0);
        }
    }

    @Sentence(BEST)
    static void promise21_anEarlyTareBeyondTheEndOfARowDoesNotCount() {
        Ferry x = new Ferry();
        x.pass(1);
        // 5 and 11 are on the right, 6 and 12 on the left: 5 has the neighbors 4 and 11 alone.
        tareAll(x, 5, 4, 11);
        due(x.bestCell(), 5);
        x.undo();
        x.undo();
        x.undo();
        tareAll(x, 12, 6, 13, 18);
        due(x.bestCell(), 12);
    }

    @Sentence(BEST)
    static void promise21_aTareThatIsAMinuteLaterIsBetter() {
        Ferry x = new Ferry();
        x.pass(1);
        tareAll(x, 0, 1, 6);
        due(x.bestCell(), 0);
        x.pass(1);
        tareAll(x, 23, 22, 17);
        due(x.bestCell(), 23);
        tareAll(x, 0, 1);
        due(x.bestCell(), 23);
        x.tare(6);
        due(x.bestCell(), 0);
    }

    @Sentence(BEST)
    static void promise21_aTakenCellIsNotTheBest() {
        Ferry x = new Ferry();
        x.pass(1);
        tareAll(x, 23, 22, 17);
        x.board(20, 20, 23);
        due(x.bestCell(), 0);
        x.walk(0, 22);
        due(x.bestCell(), 23);
        x.leave(0);
        due(x.bestCell(), 23);
    }

    @Sentence("Returns the cell.")
    static void promise21_theCellIsAnsweredAndNothingChanges() {
        leavesAll(EMPTY_FLOOR, x -> x.bestCell(), 0);
        leavesAll(FULL_FLOOR, x -> x.bestCell(), 8);
        leavesAll(LAST_MINUTE, x -> x.bestCell(), 0);
    }

    // ---- promise 22: until

    @Sentence("Tells how many minutes may pass until the certainty of the estimate for a walker is less than a bound.")
    static void promise22_afterSoManyMinutesItIsLessAndNotBefore() {
        for (int bound = 1; bound <= 100; bound++) {
            Ferry x = after(TWO);
            x.accuse(0, 1);
            int minutes = x.until(0, bound);
            if (minutes > 1) {
                x.pass(minutes - 1);
            }
            int before = x.certainty(0);
            if (minutes > 0) {
                x.pass(1);
            }
            int then = x.certainty(0);
            if (then >= bound || minutes > 0 && before < bound) {
                fail("until(0, " + bound + ") is not the smallest number: " + Ferry.latestRun());
            }
        }
    }

    @Sentence("Tells how many minutes may pass until the certainty of the estimate for a walker is less than a bound.")
    static void promise22_untilChangesNothing() {
        leavesAll(TWO, x -> x.until(0, 50), 11);
    }

    @Sentence("walker: a walker")
    static void promise22_theFirstAndTheLast() {
        Ferry x = after(FULL_FLOOR);
        x.accuse(0, 1);
        due(x.until(0, 80), 3);
        due(x.until(7, 80), 5);
    }

    @Sentence("bound: 1 to 100")
    static void promise22_theLeastBoundIs1() {
        due(after(TWO).until(0, 1), 20);
        leavesAll(TWO, x -> x.until(0, 0), INVALID);
        leavesAll(TWO, x -> x.until(0, -1), INVALID);
        leavesAll(TWO, x -> x.until(0, LOWEST), INVALID);
    }

    @Sentence("bound: 1 to 100")
    static void promise22_theGreatestBoundIs100() {
        due(after(TWO).until(0, 100), 1);
        leavesAll(TWO, x -> x.until(0, 101), INVALID);
        leavesAll(TWO, x -> x.until(0, HIGHEST), INVALID);
    }

    @Sentence("Returns the smallest number of minutes after which it is less, 0 if it is less now;")
    static void promise22_aCertaintyThatIsTheBoundIsNotLess() {
        Ferry x = after(TWO);
        x.pass(1);
        due(x.until(0, 94), 1);
        due(x.until(0, 95), 1);
        due(x.until(0, 96), 0);
        due(x.until(0, 91), 1);
        due(x.until(0, 90), 2);
    }

    @Sentence("Returns the smallest number of minutes after which it is less, 0 if it is less now;")
    static void promise22_0AtTheCertainty0() {
        Ferry x = after(TWO);
        x.pass(19);
        due(x.until(0, 1), 1);
        due(x.until(0, 5), 1);
        due(x.until(0, 6), 0);
        x.pass(1);
        due(x.until(0, 1), 0);
        due(x.until(0, 100), 0);
        x.pass(60);
        due(x.until(0, 1), 0);
    }

    @Sentence("Returns the smallest number of minutes after which it is less, 0 if it is less now;")
    static void promise22_itIsCountedOnBeyondTheLastMinute() {
        Ferry x = after(LAST_MINUTE);
        tareAll(x, 8, 2, 14, 7, 9);
        ONE.on(x);
        due(x.until(0, 1), 20);
        due(x.until(0, 100), 1);
    }

    @Sentence("INVALID_ARGUMENT if an argument is out of range;")
    static void promise22_nobodyBelow0OrBeyondTheLast() {
        leavesAll(EMPTY_FLOOR, x -> x.until(0, 1), INVALID);
        leavesAll(TWO, x -> x.until(-1, 1), INVALID);
        leavesAll(TWO, x -> x.until(2, 1), INVALID);
        leavesAll(TWO, x -> x.until(LOWEST, 1), INVALID);
        leavesAll(TWO, x -> x.until(HIGHEST, 1), INVALID);
        leavesAll(FULL_FLOOR, x -> x.until(8, 1), INVALID);
    }

    @Sentence("INVALID_ARGUMENT if an argument is out of range;")
    static void promise22_outOfRangeIsToldBeforeAshore() {
        leavesAll(TWO_AND_ONE_ASHORE, x -> x.until(2, 0), INVALID);
        leavesAll(TWO_AND_ONE_ASHORE, x -> x.until(2, 101), INVALID);
        leavesAll(TWO_AND_ONE_ASHORE, x -> x.until(3, 1), INVALID);
    }

    @Sentence("ILLEGAL_STATE if the walker is ashore.")
    static void promise22_nothingIsToldOfWhoIsAshore() {
        leavesAll(TWO_AND_ONE_ASHORE, x -> x.until(2, 1), ILLEGAL);
        leavesAll(TWO_AND_ONE_ASHORE, x -> x.until(2, 100), ILLEGAL);
    }
}
