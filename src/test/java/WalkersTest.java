/** Promises 5 to 8, the walkers: a test for each sentence, with the boundaries that it names. */
public final class WalkersTest extends Checks {
    // Beside each other, so that some cells get shares from both.
    private static final Calls TWO = x -> {
        x.board(100, 100, 0);
        x.board(60, 60, 7);
    };

    private static final Calls TWO_AND_ONE_ASHORE = x -> {
        TWO.on(x);
        x.board(30, 40, 23);
        x.leave(2);
    };

    private static final Calls ALL_ASHORE = x -> {
        FULL_FLOOR.on(x);
        for (int walker = 0; walker < 8; walker++) {
            x.leave(walker);
        }
    };

    public static void main(String[] args) {
        runAll(WalkersTest.class);
    }

    // ---- promise 5: board

    @Sentence("Lets a walker come aboard.")
    static void promise5_theWalkerIsOnTheCellAndInTheBook() {
        Ferry x = new Ferry();
        x.board(70, 90, 12);
        due(x.count(1), 1);
        due(x.count(2), 1);
        due(x.cell(12, 6), 0);
        due(x.cell(12, 7), 0);
        due(x.walker(0, 1), 12);
        due(x.walker(0, 3), 12);
        due(x.cell(12, 0), 70 - 24);
        due(x.cell(12, 5), 90 - 33);
    }

    @Sentence("Lets a walker come aboard.")
    static void promise5_aNewWalkerIsNeitherAccusedNorBilled() {
        Ferry x = new Ferry();
        x.board(70, 90, 12);
        due(x.walker(0, 4), 0);
        due(x.walker(0, 5), NONE);
        due(x.walker(0, 6), 0);
        due(x.walker(0, 7), 0);
    }

    @Sentence("This is an action.")
    static void promise5_boardIsRecorded() {
        recorded(EMPTY_FLOOR, x -> x.board(20, 150, 0), 0);
        recorded(TWO_AND_ONE_ASHORE, x -> x.board(150, 20, 23), 3);
    }

    @Sentence("weight: 20 to 150, the true weight")
    static void promise5_theLeastWeightIs20() {
        Ferry x = new Ferry();
        due(x.board(20, 50, 8), 0);
        due(x.walker(0, 0), 20);
        due(x.count(5), 20);
        leavesAll(EMPTY_FLOOR, y -> y.board(19, 50, 8), INVALID);
        leavesAll(EMPTY_FLOOR, y -> y.board(0, 50, 8), INVALID);
        leavesAll(EMPTY_FLOOR, y -> y.board(LOWEST, 50, 8), INVALID);
    }

    @Sentence("weight: 20 to 150, the true weight")
    static void promise5_theGreatestWeightIs150() {
        Ferry x = new Ferry();
        due(x.board(150, 50, 8), 0);
        due(x.walker(0, 0), 150);
        due(x.count(5), 150);
        leavesAll(EMPTY_FLOOR, y -> y.board(151, 50, 8), INVALID);
        leavesAll(EMPTY_FLOOR, y -> y.board(HIGHEST, 50, 8), INVALID);
    }

    @Sentence("told: 20 to 150, the weight that the walker tells")
    static void promise5_theLeastToldWeightIs20() {
        Ferry x = new Ferry();
        due(x.board(50, 20, 8), 0);
        due(x.walker(0, 2), 20);
        due(x.walker(0, 0), 50);
        leavesAll(EMPTY_FLOOR, y -> y.board(50, 19, 8), INVALID);
        leavesAll(EMPTY_FLOOR, y -> y.board(50, 0, 8), INVALID);
        leavesAll(EMPTY_FLOOR, y -> y.board(50, LOWEST, 8), INVALID);
    }

    @Sentence("told: 20 to 150, the weight that the walker tells")
    static void promise5_theGreatestToldWeightIs150() {
        Ferry x = new Ferry();
        due(x.board(50, 150, 8), 0);
        due(x.walker(0, 2), 150);
        due(x.walker(0, 0), 50);
        leavesAll(EMPTY_FLOOR, y -> y.board(50, 151, 8), INVALID);
        leavesAll(EMPTY_FLOOR, y -> y.board(50, HIGHEST, 8), INVALID);
    }

    @Sentence("cell: 0 to 23")
    static void promise5_theLeastCellIs0() {
        Ferry x = new Ferry();
        due(x.board(50, 50, 0), 0);
        due(x.walker(0, 1), 0);
        leavesAll(EMPTY_FLOOR, y -> y.board(50, 50, -1), INVALID);
        leavesAll(EMPTY_FLOOR, y -> y.board(50, 50, LOWEST), INVALID);
        leavesAll(EMPTY_FLOOR, y -> y.board(50, 50, NONE), INVALID);
    }

    @Sentence("cell: 0 to 23")
    static void promise5_theGreatestCellIs23() {
        Ferry x = new Ferry();
        due(x.board(50, 50, 23), 0);
        due(x.walker(0, 1), 23);
        leavesAll(EMPTY_FLOOR, y -> y.board(50, 50, 24), INVALID);
        leavesAll(EMPTY_FLOOR, y -> y.board(50, 50, HIGHEST), INVALID);
    }

    @Sentence("Returns the number of the walker;")
    static void promise5_theNumbersGoFrom0To7() {
        Ferry x = new Ferry();
        for (int walker = 0; walker < 8; walker++) {
            due(x.board(50, 50, 3 * walker), walker);
        }
    }

    @Sentence("Returns the number of the walker;")
    static void promise5_whoIsAshoreKeepsTheNumber() {
        Ferry x = after(TWO);
        x.leave(0);
        x.leave(1);
        due(x.board(50, 50, 0), 2);
    }

    @Sentence("Returns the number of the walker;")
    static void promise5_anUndoneNumberIsGivenAgain() {
        Ferry x = after(TWO);
        x.undo();
        due(x.board(50, 50, 8), 1);
        due(x.walker(1, 0), 50);
        due(x.cell(7, 6), NONE);
    }

    @Sentence("INVALID_ARGUMENT if an argument is out of range;")
    static void promise5_outOfRangeIsToldBeforeATakenCellAndNoRoom() {
        leavesAll(FULL_FLOOR, x -> x.board(19, 50, 0), INVALID);
        leavesAll(FULL_FLOOR, x -> x.board(50, 151, 0), INVALID);
        leavesAll(FULL_FLOOR, x -> x.board(50, 50, 24), INVALID);
        leavesAll(FULL_FLOOR, x -> x.board(151, 19, -1), INVALID);
    }

    @Sentence("ILLEGAL_STATE if somebody stands on the cell;")
    static void promise5_nobodyBoardsWhereTheFirstOrTheLastStands() {
        leavesAll(FULL_FLOOR, x -> x.board(50, 50, 0), ILLEGAL);
        leavesAll(FULL_FLOOR, x -> x.board(50, 50, 7), ILLEGAL);
        leavesAll(TWO, x -> x.board(50, 50, 0), ILLEGAL);
        leavesAll(TWO, x -> x.board(50, 50, 7), ILLEGAL);
    }

    @Sentence("ILLEGAL_STATE if somebody stands on the cell;")
    static void promise5_aCellIsFreeWhenTheWalkerIsGone() {
        Ferry x = after(TWO);
        x.walk(0, 1);
        due(x.board(50, 50, 0), 2);
        x.leave(1);
        due(x.board(50, 50, 7), 3);
        due(x.board(50, 50, 1), ILLEGAL);
    }

    @Sentence("CAPACITY_EXCEEDED if there are 8 walkers, aboard or ashore.")
    static void promise5_theEighthComesAndTheNinthDoesNot() {
        Ferry x = after(FULL_FLOOR);
        x.undo();
        due(x.board(50, 50, 23), 7);
        due(x.board(50, 50, 22), NO_ROOM);
        leavesAll(FULL_FLOOR, y -> y.board(20, 20, 23), NO_ROOM);
        leavesAll(FULL_FLOOR, y -> y.board(150, 150, 8), NO_ROOM);
    }

    @Sentence("CAPACITY_EXCEEDED if there are 8 walkers, aboard or ashore.")
    static void promise5_whoIsAshoreCountsToo() {
        leavesAll(ALL_ASHORE, x -> x.board(50, 50, 0), NO_ROOM);
    }

    // ---- promise 6: walk

    @Sentence("Lets a walker walk to another cell.")
    static void promise6_theWalkerGoesFromCornerToCorner() {
        Ferry x = after(TWO);
        x.walk(0, 23);
        due(x.walker(0, 1), 23);
        due(x.walker(0, 3), 23);
        due(x.cell(0, 6), NONE);
        due(x.cell(0, 7), NONE);
        due(x.cell(23, 6), 0);
        due(x.cell(23, 7), 0);
        due(x.cell(0, 0), 0);
        due(x.cell(23, 0), 76);
        due(x.walker(1, 1), 7);
        due(x.count(4), 0);
    }

    @Sentence("This is an action.")
    static void promise6_walkIsRecorded() {
        recorded(TWO, x -> x.walk(0, 23), 0);
        recorded(FULL_FLOOR, x -> x.walk(7, 8), 7);
    }

    @Sentence("walker: a walker")
    static void promise6_theFirstAndTheLastWalk() {
        Ferry x = after(FULL_FLOOR);
        due(x.walk(0, 23), 0);
        due(x.walk(7, 22), 7);
    }

    @Sentence("walker: a walker")
    static void promise6_nobodyBelow0OrBeyondTheLast() {
        leavesAll(FULL_FLOOR, x -> x.walk(-1, 23), INVALID);
        leavesAll(FULL_FLOOR, x -> x.walk(8, 23), INVALID);
        leavesAll(TWO, x -> x.walk(2, 23), INVALID);
        leavesAll(TWO, x -> x.walk(7, 23), INVALID);
        leavesAll(TWO, x -> x.walk(LOWEST, 23), INVALID);
        leavesAll(TWO, x -> x.walk(HIGHEST, 23), INVALID);
        leavesAll(EMPTY_FLOOR, x -> x.walk(0, 23), INVALID);
    }

    @Sentence("walker: a walker")
    static void promise6_nobodyWhoseBoardingIsUndone() {
        Ferry x = after(TWO);
        x.undo();
        due(x.walk(1, 23), INVALID);
    }

    @Sentence("cell: 0 to 23")
    static void promise6_theLeastCellIs0() {
        Ferry x = after(TWO);
        x.walk(0, 12);
        due(x.walk(1, 0), 1);
        due(x.walker(1, 1), 0);
        leavesAll(TWO, y -> y.walk(1, -1), INVALID);
        leavesAll(TWO, y -> y.walk(1, LOWEST), INVALID);
        leavesAll(TWO, y -> y.walk(1, NONE), INVALID);
    }

    @Sentence("cell: 0 to 23")
    static void promise6_theGreatestCellIs23() {
        Ferry x = after(TWO);
        due(x.walk(1, 23), 1);
        due(x.walker(1, 1), 23);
        leavesAll(TWO, y -> y.walk(1, 24), INVALID);
        leavesAll(TWO, y -> y.walk(1, HIGHEST), INVALID);
    }

    @Sentence("Returns the number of the walker whom the clerk takes for the one who walks;")
    static void promise6_whoIsInTheBookIsTakenForTheWalker() {
        Ferry x = after(TWO);
        due(x.walk(0, 5), 0);
        x.swap(0, 1);
        due(x.walk(0, 6), 1);
        due(x.walk(1, 8), 0);
        due(x.walker(0, 3), 8);
        due(x.walker(1, 3), 6);
        x.swap(0, 1);
        due(x.walk(0, 9), 0);
        due(x.walk(1, 10), 1);
    }

    @Sentence("Returns the number of the walker whom the clerk takes for the one who walks;")
    static void promise6_theTakenCanBeTheFirstOrTheLastOfAFullFloor() {
        Ferry x = after(FULL_FLOOR);
        x.swap(0, 7);
        due(x.walk(7, 23), 0);
        due(x.walk(0, 22), 7);
    }

    @Sentence("INVALID_ARGUMENT if an argument is out of range;")
    static void promise6_outOfRangeIsToldBeforeTheState() {
        leavesAll(TWO_AND_ONE_ASHORE, x -> x.walk(2, 24), INVALID);
        leavesAll(TWO_AND_ONE_ASHORE, x -> x.walk(3, 0), INVALID);
        leavesAll(TWO_AND_ONE_ASHORE, x -> x.walk(-1, -1), INVALID);
    }

    @Sentence("ILLEGAL_STATE if the walker is ashore, or somebody stands on the cell (also the walker).")
    static void promise6_nobodyWalksAshore() {
        leavesAll(TWO_AND_ONE_ASHORE, x -> x.walk(2, 23), ILLEGAL);
        leavesAll(TWO_AND_ONE_ASHORE, x -> x.walk(2, 0), ILLEGAL);
        leavesAll(ALL_ASHORE, x -> x.walk(0, 0), ILLEGAL);
    }

    @Sentence("ILLEGAL_STATE if the walker is ashore, or somebody stands on the cell (also the walker).")
    static void promise6_nobodyWalksWhereAnotherStands() {
        leavesAll(TWO, x -> x.walk(0, 7), ILLEGAL);
        leavesAll(TWO, x -> x.walk(1, 0), ILLEGAL);
        leavesAll(FULL_FLOOR, x -> x.walk(0, 7), ILLEGAL);
    }

    @Sentence("ILLEGAL_STATE if the walker is ashore, or somebody stands on the cell (also the walker).")
    static void promise6_nobodyWalksToTheOwnCell() {
        leavesAll(TWO, x -> x.walk(0, 0), ILLEGAL);
        leavesAll(TWO, x -> x.walk(1, 7), ILLEGAL);
    }

    @Sentence("ILLEGAL_STATE if the walker is ashore, or somebody stands on the cell (also the walker).")
    static void promise6_aCellThatWasLeftIsFree() {
        Ferry x = after(TWO_AND_ONE_ASHORE);
        due(x.walk(0, 23), 0);
        due(x.walk(1, 0), 1);
    }

    // ---- promise 7: swap

    @Sentence("Lets two walkers change places unseen.")
    static void promise7_theTwoChangePlacesAndNobodyElse() {
        Ferry x = after(FULL_FLOOR);
        x.swap(0, 7);
        due(x.walker(0, 1), 7);
        due(x.walker(7, 1), 0);
        due(x.cell(0, 6), 7);
        due(x.cell(7, 6), 0);
        for (int walker = 0; walker < 8; walker++) {
            due(x.walker(walker, 3), walker);
        }
        for (int walker = 1; walker < 7; walker++) {
            due(x.walker(walker, 1), walker);
        }
    }

    @Sentence("This is an action.")
    static void promise7_swapIsRecorded() {
        recorded(TWO, x -> x.swap(0, 1), 60);
        recorded(x -> {
            TWO.on(x);
            x.swap(0, 1);
        }, x -> x.swap(1, 0), 0);
    }

    @Sentence("one: a walker")
    static void promise7_oneIsTheFirstOrTheLast() {
        Ferry x = after(FULL_FLOOR);
        x.swap(0, 3);
        due(x.walker(0, 1), 3);
        x.swap(7, 3);
        due(x.walker(7, 1), 0);
        due(x.walker(3, 1), 7);
    }

    @Sentence("one: a walker")
    static void promise7_oneIsNobodyBelow0OrBeyondTheLast() {
        leavesAll(FULL_FLOOR, x -> x.swap(-1, 0), INVALID);
        leavesAll(FULL_FLOOR, x -> x.swap(8, 0), INVALID);
        leavesAll(TWO, x -> x.swap(2, 0), INVALID);
        leavesAll(TWO, x -> x.swap(LOWEST, 0), INVALID);
        leavesAll(TWO, x -> x.swap(HIGHEST, 0), INVALID);
    }

    @Sentence("other: another walker")
    static void promise7_otherIsTheFirstOrTheLast() {
        Ferry x = after(FULL_FLOOR);
        x.swap(3, 0);
        due(x.walker(0, 1), 3);
        x.swap(3, 7);
        due(x.walker(7, 1), 0);
        due(x.walker(3, 1), 7);
    }

    @Sentence("other: another walker")
    static void promise7_otherIsNobodyBelow0OrBeyondTheLast() {
        leavesAll(FULL_FLOOR, x -> x.swap(0, -1), INVALID);
        leavesAll(FULL_FLOOR, x -> x.swap(0, 8), INVALID);
        leavesAll(TWO, x -> x.swap(0, 2), INVALID);
        leavesAll(TWO, x -> x.swap(0, LOWEST), INVALID);
        leavesAll(TWO, x -> x.swap(0, HIGHEST), INVALID);
    }

    @Sentence("Returns the error of the book then;")
    static void promise7_theErrorOfTwoWeightsIsAnswered() {
        Ferry x = after(TWO);
        // Cell 0: 46 for 76, cell 7: 52 for 32; 1 and 6 get 7 + 12 for both; 8 and 13 get 12 for 7.
        due(x.swap(0, 1), 60);
        due(x.count(4), 60);
    }

    @Sentence("Returns the error of the book then;")
    static void promise7_theErrorOfTwoOfTheSameWeightIs0() {
        Ferry x = new Ferry();
        x.board(90, 90, 3);
        x.board(90, 90, 20);
        due(x.swap(0, 1), 0);
        due(x.count(7), 2);
    }

    @Sentence("Returns the error of the book then;")
    static void promise7_theErrorOfAFullFloorIsAnswered() {
        Ferry x = after(FULL_FLOOR);
        // 20 and 146 on the cells 0 and 7. Cell 0: 110 for 16, cell 7: 12 for 74; 8 and 13 get 2 for 18.
        due(x.swap(0, 7), 94 + 62 + 16 + 16);
    }

    @Sentence("INVALID_ARGUMENT if there are no such walkers, or both are the same;")
    static void promise7_nobodyChangesPlacesAlone() {
        leavesAll(TWO, x -> x.swap(0, 0), INVALID);
        leavesAll(FULL_FLOOR, x -> x.swap(7, 7), INVALID);
        leavesAll(TWO_AND_ONE_ASHORE, x -> x.swap(2, 2), INVALID);
    }

    @Sentence("INVALID_ARGUMENT if there are no such walkers, or both are the same;")
    static void promise7_nobodyChangesPlacesOnAnEmptyFloor() {
        leavesAll(EMPTY_FLOOR, x -> x.swap(0, 1), INVALID);
        leavesAll(EMPTY_FLOOR, x -> x.swap(0, 0), INVALID);
        leavesAll(TWO, x -> x.swap(2, 3), INVALID);
    }

    @Sentence("INVALID_ARGUMENT if there are no such walkers, or both are the same;")
    static void promise7_noSuchWalkerIsToldBeforeOneAshore() {
        leavesAll(TWO_AND_ONE_ASHORE, x -> x.swap(2, 3), INVALID);
        leavesAll(TWO_AND_ONE_ASHORE, x -> x.swap(-1, 2), INVALID);
    }

    @Sentence("ILLEGAL_STATE if one of them is ashore.")
    static void promise7_nobodyChangesPlacesWithWhoIsAshore() {
        leavesAll(TWO_AND_ONE_ASHORE, x -> x.swap(0, 2), ILLEGAL);
        leavesAll(TWO_AND_ONE_ASHORE, x -> x.swap(2, 0), ILLEGAL);
        leavesAll(ALL_ASHORE, x -> x.swap(6, 7), ILLEGAL);
    }

    // ---- promise 8: leave

    @Sentence("Lets a walker go ashore.")
    static void promise8_theWalkerIsOnNoCellAndNotInTheBook() {
        Ferry x = after(TWO);
        x.leave(0);
        due(x.count(1), 2);
        due(x.count(2), 1);
        due(x.walker(0, 1), NONE);
        due(x.walker(0, 2), NONE);
        due(x.walker(0, 3), NONE);
        due(x.cell(0, 6), NONE);
        due(x.cell(0, 7), NONE);
        due(x.cell(0, 0), 0);
        due(x.cell(0, 5), 0);
        due(x.walker(1, 1), 7);
        due(x.walker(1, 3), 7);
    }

    @Sentence("Lets a walker go ashore.")
    static void promise8_theLastOneLeavesAnEmptyFloor() {
        Ferry x = after(ALL_ASHORE);
        due(x.count(1), 8);
        due(x.count(2), 0);
        due(x.count(4), 0);
        due(x.count(5), 0);
        for (int cell = 0; cell < 24; cell++) {
            due(x.cell(cell, 6), NONE);
            due(x.cell(cell, 7), NONE);
        }
    }

    @Sentence("This is an action.")
    static void promise8_leaveIsRecorded() {
        recorded(TWO, x -> x.leave(0), 1);
        recorded(FULL_FLOOR, x -> x.leave(7), 1);
        recorded(x -> {
            TWO.on(x);
            x.swap(0, 1);
        }, x -> x.leave(1), 0);
    }

    @Sentence("walker: a walker")
    static void promise8_theFirstAndTheLastLeave() {
        Ferry x = after(FULL_FLOOR);
        due(x.leave(0), 1);
        due(x.leave(7), 1);
        due(x.count(2), 6);
    }

    @Sentence("Returns 1 if the book had the walker on the right cell, otherwise 0;")
    static void promise8_1ForTheRightCell() {
        Ferry x = after(TWO);
        due(x.leave(1), 1);
        x = after(TWO);
        x.swap(0, 1);
        x.swap(0, 1);
        due(x.leave(0), 1);
    }

    @Sentence("Returns 1 if the book had the walker on the right cell, otherwise 0;")
    static void promise8_0ForAnotherCellAnd1ForTheOtherOneThen() {
        Ferry x = after(TWO);
        x.swap(0, 1);
        due(x.leave(0), 0);
        due(x.walker(1, 3), 0);
        due(x.leave(1), 1);
    }

    @Sentence("Returns 1 if the book had the walker on the right cell, otherwise 0;")
    static void promise8_aRingOfThreeGivesTheOtherCellOn() {
        Ferry x = after(TWO);
        x.board(30, 30, 23);
        x.swap(0, 1);
        x.swap(1, 2);
        // Now 0 stands on 7, 1 on 23 and 2 on 0; the book has 0 on 0, 1 on 7 and 2 on 23.
        due(x.leave(1), 0);
        due(x.walker(2, 3), 7);
        due(x.walker(0, 3), 0);
        due(x.leave(2), 0);
        due(x.walker(0, 3), 7);
        due(x.leave(0), 1);
    }

    @Sentence("INVALID_ARGUMENT if there is no such walker;")
    static void promise8_nobodyBelow0OrBeyondTheLast() {
        leavesAll(EMPTY_FLOOR, x -> x.leave(0), INVALID);
        leavesAll(TWO, x -> x.leave(-1), INVALID);
        leavesAll(TWO, x -> x.leave(2), INVALID);
        leavesAll(TWO, x -> x.leave(LOWEST), INVALID);
        leavesAll(TWO, x -> x.leave(HIGHEST), INVALID);
        leavesAll(FULL_FLOOR, x -> x.leave(8), INVALID);
    }

    @Sentence("ILLEGAL_STATE if the walker is ashore.")
    static void promise8_nobodyLeavesTwice() {
        leavesAll(TWO_AND_ONE_ASHORE, x -> x.leave(2), ILLEGAL);
        leavesAll(ALL_ASHORE, x -> x.leave(0), ILLEGAL);
        leavesAll(ALL_ASHORE, x -> x.leave(7), ILLEGAL);
    }

    @Sentence("ILLEGAL_STATE if the walker is ashore.")
    static void promise8_whoIsBackByUndoCanLeave() {
        Ferry x = after(TWO_AND_ONE_ASHORE);
        due(x.leave(2), ILLEGAL);
        x.undo();
        due(x.leave(2), 1);
    }
}
