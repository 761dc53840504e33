/** What the document says ahead of the promises: a test for each sentence, with the boundaries that it names. */
public final class TermsTest extends Checks {
    // One on the cell 0 whose weight is what the other tells, and one far off.
    private static final Calls TWO_FAR = x -> {
        x.board(100, 100, 0);
        x.board(60, 60, 23);
    };

    // The other one stands beside and tells far too little, so that 0 is taken for 118.
    private static final Calls BILLED_TOO_MUCH = x -> {
        x.board(20, 20, 0);
        x.board(150, 20, 1);
        x.bill(0);
    };

    public static void main(String[] args) {
        runAll(TermsTest.class);
    }

    /** Each cell's reading, as the row c / 6 and the column c % 6 have it. */
    private static void dueReadings(Ferry x, int... want) {
        for (int cell = 0; cell < 24; cell++) {
            due(x.cell(cell, 0), want[cell]);
        }
    }

    private static void tareAll(Ferry x, int... cells) {
        for (int cell : cells) {
            x.tare(cell);
        }
    }

    // ---- how long an object is used

    @Sentence("An object is used for at most 512 calls after it has been made; what later calls answer is free.")
    static void terms_theLastOf512CallsIsAnswered() {
        Ferry x = after(TWO_FAR);
        while (x.calls() < 508) {
            x.setPrice(x.calls() % 100);
        }
        due(x.swap(0, 1), 80);
        due(x.undo(), 4);
        due(x.cell(0, 0), 76);
        due(x.mend(0), 0);
        due(x.calls(), 512);
    }

    // ---- numbers

    @Sentence("All numbers are whole; weights are in kilograms, amounts in cents.")
    static void terms_anAmountIsKilogramsTimesCents() {
        Ferry x = after(TWO_FAR);
        due(x.bill(0), 100);
        due(x.walker(0, 6), 1000);
    }

    @Sentence("A quotient is rounded down, unless something else is told.")
    static void terms_aShareIsRoundedDown() {
        Ferry x = new Ferry();
        x.board(31, 39, 8);
        due(x.cell(7, 0), 3);
        due(x.cell(7, 5), 4);
    }

    @Sentence("A quotient is rounded down, unless something else is told.")
    static void terms_aBillIsRoundedDown() {
        Ferry x = new Ferry();
        x.board(39, 39, 8);
        passTo(x, 19);
        due(x.bill(0), 1);
    }

    // ---- the floor

    @Sentence("The floor has 24 cells, in 4 rows of 6:")
    static void terms_theCells0And23AreThere() {
        Ferry x = new Ferry();
        due(x.cell(0, 0), 0);
        due(x.cell(23, 0), 0);
    }

    @Sentence("The floor has 24 cells, in 4 rows of 6:")
    static void terms_theCellsMinus1And24AreNot() {
        leavesAll(EMPTY_FLOOR, x -> x.cell(-1, 0), INVALID);
        leavesAll(EMPTY_FLOOR, x -> x.cell(24, 0), INVALID);
    }

    @Sentence("cell c is in the row c divided by 6 and in the column that is left over.")
    static void terms_theLastOfARowIsNotBesideTheFirstOfTheNext() {
        for (int last = 5; last <= 17; last += 6) {
            Ferry x = new Ferry();
            x.board(80, 80, last);
            due(x.cell(last - 1, 0), 10);
            due(x.cell(last + 1, 0), 0);
        }
    }

    @Sentence("cell c is in the row c divided by 6 and in the column that is left over.")
    static void terms_theFirstOfARowIsNotBesideTheLastOfTheOneBefore() {
        for (int first = 6; first <= 18; first += 6) {
            Ferry x = new Ferry();
            x.board(80, 80, first);
            due(x.cell(first + 1, 0), 10);
            due(x.cell(first - 1, 0), 0);
        }
    }

    @Sentence("cell c is in the row c divided by 6 and in the column that is left over.")
    static void terms_theTopRowIsNotBesideTheBottomRow() {
        Ferry x = new Ferry();
        x.board(80, 80, 2);
        due(x.cell(20, 0), 0);
        x.walk(0, 20);
        due(x.cell(2, 0), 0);
    }

    @Sentence("Neighbors of a cell are those directly above, below, left and right of it, as far as they are there.")
    static void terms_anInnerCellHasFourNeighbors() {
        Ferry x = new Ferry();
        x.board(80, 80, 8);
        dueReadings(x,
                0, 0, 10, 0, 0, 0,
                0, 10, 40, 10, 0, 0,
                0, 0, 10, 0, 0, 0,
                0, 0, 0, 0, 0, 0);
        x.walk(0, 16);
        dueReadings(x,
                0, 0, 0, 0, 0, 0,
                0, 0, 0, 0, 10, 0,
                0, 0, 0, 10, 40, 10,
                0, 0, 0, 0, 10, 0);
    }

    @Sentence("Neighbors of a cell are those directly above, below, left and right of it, as far as they are there.")
    static void terms_aCellAtASideHasThreeNeighbors() {
        Ferry x = new Ferry();
        x.board(80, 80, 3);
        dueReadings(x,
                0, 0, 10, 50, 10, 0,
                0, 0, 0, 10, 0, 0,
                0, 0, 0, 0, 0, 0,
                0, 0, 0, 0, 0, 0);
        x.walk(0, 12);
        dueReadings(x,
                0, 0, 0, 0, 0, 0,
                10, 0, 0, 0, 0, 0,
                50, 10, 0, 0, 0, 0,
                10, 0, 0, 0, 0, 0);
        x.walk(0, 11);
        dueReadings(x,
                0, 0, 0, 0, 0, 10,
                0, 0, 0, 0, 10, 50,
                0, 0, 0, 0, 0, 10,
                0, 0, 0, 0, 0, 0);
        x.walk(0, 20);
        dueReadings(x,
                0, 0, 0, 0, 0, 0,
                0, 0, 0, 0, 0, 0,
                0, 0, 10, 0, 0, 0,
                0, 10, 50, 10, 0, 0);
    }

    @Sentence("Neighbors of a cell are those directly above, below, left and right of it, as far as they are there.")
    static void terms_aCornerHasTwoNeighbors() {
        Ferry x = new Ferry();
        x.board(80, 80, 0);
        dueReadings(x,
                60, 10, 0, 0, 0, 0,
                10, 0, 0, 0, 0, 0,
                0, 0, 0, 0, 0, 0,
                0, 0, 0, 0, 0, 0);
        x.walk(0, 5);
        dueReadings(x,
                0, 0, 0, 0, 10, 60,
                0, 0, 0, 0, 0, 10,
                0, 0, 0, 0, 0, 0,
                0, 0, 0, 0, 0, 0);
        x.walk(0, 18);
        dueReadings(x,
                0, 0, 0, 0, 0, 0,
                0, 0, 0, 0, 0, 0,
                10, 0, 0, 0, 0, 0,
                60, 10, 0, 0, 0, 0);
        x.walk(0, 23);
        dueReadings(x,
                0, 0, 0, 0, 0, 0,
                0, 0, 0, 0, 0, 0,
                0, 0, 0, 0, 0, 10,
                0, 0, 0, 0, 10, 60);
    }

    @Sentence("A weight w that stands on a cell gives a share of w divided by 8 to each neighbor of this cell, "
            + "and what is left of w to the cell itself.")
    static void terms_theLeastWeightIsShared() {
        Ferry x = new Ferry();
        x.board(20, 20, 8);
        due(x.cell(2, 0), 2);
        due(x.cell(8, 0), 12);
        x.walk(0, 0);
        due(x.cell(1, 0), 2);
        due(x.cell(0, 0), 16);
    }

    @Sentence("A weight w that stands on a cell gives a share of w divided by 8 to each neighbor of this cell, "
            + "and what is left of w to the cell itself.")
    static void terms_theGreatestWeightIsShared() {
        Ferry x = new Ferry();
        x.board(150, 150, 8);
        due(x.cell(14, 0), 18);
        due(x.cell(8, 0), 78);
        x.walk(0, 23);
        due(x.cell(17, 0), 18);
        due(x.cell(23, 0), 114);
    }

    @Sentence("A weight w that stands on a cell gives a share of w divided by 8 to each neighbor of this cell, "
            + "and what is left of w to the cell itself.")
    static void terms_whatIsLeftHoldsWhatTheDivisionLeaves() {
        Ferry x = new Ferry();
        x.board(23, 24, 8);
        due(x.cell(9, 0), 2);
        due(x.cell(8, 0), 15);
        due(x.cell(9, 5), 3);
        due(x.cell(8, 5), 12);
    }

    @Sentence("Each cell has a zero (0 at first), and a drift of -3 to 3 (0 at first) by which its zero changes "
            + "with each minute.")
    static void terms_zeroAndDriftAre0AtFirst() {
        Ferry x = new Ferry();
        for (int cell = 0; cell < 24; cell++) {
            due(x.cell(cell, 1), 0);
            due(x.cell(cell, 2), 0);
        }
    }

    @Sentence("Each cell has a zero (0 at first), and a drift of -3 to 3 (0 at first) by which its zero changes "
            + "with each minute.")
    static void terms_theZeroChangesByTheLeastAndTheGreatestDrift() {
        Ferry x = new Ferry();
        x.setDrift(0, -3);
        x.setDrift(23, 3);
        x.pass(1);
        due(x.cell(0, 1), -3);
        due(x.cell(23, 1), 3);
        due(x.cell(1, 1), 0);
        x.pass(60);
        due(x.cell(0, 1), -183);
        due(x.cell(23, 1), 183);
        due(x.cell(22, 1), 0);
    }

    @Sentence("Each cell has a zero (0 at first), and a drift of -3 to 3 (0 at first) by which its zero changes "
            + "with each minute.")
    static void terms_theZeroChangesUntilTheLastMinute() {
        Ferry x = new Ferry();
        x.setDrift(0, -3);
        x.setDrift(23, 3);
        passTo(x, 2000);
        due(x.cell(0, 0), -6000);
        due(x.cell(23, 0), 6000);
        due(x.count(4), 12000);
    }

    @Sentence("The reading of a cell is the sum of all shares that it gets, and its zero.")
    static void terms_aCellReadsWhoStandsOnItAndAllAround() {
        Ferry x = new Ferry();
        for (int cell : new int[] {7, 1, 6, 8, 13}) {
            x.board(40, 40, cell);
        }
        due(x.cell(7, 0), 40);
        x.setDrift(7, -3);
        x.pass(60);
        due(x.cell(7, 0), 40 - 180);
    }

    @Sentence("The reading of a cell is the sum of all shares that it gets, and its zero.")
    static void terms_anEmptyFloorReadsItsZeros() {
        Ferry x = new Ferry();
        due(x.cell(7, 0), 0);
        x.setDrift(7, 2);
        x.pass(1);
        due(x.cell(7, 0), 2);
    }

    // ---- walkers

    @Sentence("There are at most 8 walkers, numbered from 0 in the order in which they came aboard; "
            + "their numbers never change.")
    static void terms_theFirstIs0AndTheEighth7() {
        Ferry x = new Ferry();
        for (int walker = 0; walker < 8; walker++) {
            due(x.board(100, 100, 23 - walker), walker);
        }
        due(x.cell(23, 6), 0);
        due(x.cell(16, 6), 7);
    }

    @Sentence("There are at most 8 walkers, numbered from 0 in the order in which they came aboard; "
            + "their numbers never change.")
    static void terms_thereIsNoNinth() {
        leavesAll(FULL_FLOOR, x -> x.board(100, 100, 8), NO_ROOM);
    }

    @Sentence("There are at most 8 walkers, numbered from 0 in the order in which they came aboard; "
            + "their numbers never change.")
    static void terms_numbersStayWhenOthersLeaveOrChangePlaces() {
        Ferry x = after(FULL_FLOOR);
        x.leave(0);
        x.leave(3);
        x.swap(6, 7);
        for (int walker = 0; walker < 8; walker++) {
            due(x.walker(walker, 0), 20 + 18 * walker);
        }
        due(x.cell(6, 6), 7);
        due(x.cell(7, 6), 6);
    }

    @Sentence("A walker has a weight of 20 to 150, which the clerk does not know, and is aboard, on a cell, or ashore.")
    static void terms_theClerkKnowsWhatIsToldAlone() {
        Ferry x = new Ferry();
        x.board(20, 150, 0);
        x.board(150, 20, 23);
        due(x.walker(0, 0), 20);
        due(x.walker(0, 2), 150);
        due(x.walker(1, 0), 150);
        due(x.walker(1, 2), 20);
    }

    @Sentence("A walker has a weight of 20 to 150, which the clerk does not know, and is aboard, on a cell, or ashore.")
    static void terms_aWalkerIsOnACellOrAshore() {
        Ferry x = after(TWO_FAR);
        due(x.walker(1, 1), 23);
        x.leave(1);
        due(x.walker(1, 1), NONE);
        due(x.walker(1, 0), 60);
    }

    @Sentence("On a cell there is one walker at most.")
    static void terms_nobodyBoardsOrWalksOnATakenCell() {
        leavesAll(TWO_FAR, x -> x.board(50, 50, 23), ILLEGAL);
        leavesAll(TWO_FAR, x -> x.walk(0, 23), ILLEGAL);
    }

    // ---- the book

    @Sentence("The clerk's book has a cell and a weight for each walker who is aboard; "
            + "walkers who are ashore are not in the book any more.")
    static void terms_whoIsAshoreIsNotInTheBook() {
        Ferry x = after(TWO_FAR);
        due(x.walker(1, 2), 60);
        due(x.walker(1, 3), 23);
        due(x.cell(23, 5), 46);
        x.leave(1);
        due(x.walker(1, 2), NONE);
        due(x.walker(1, 3), NONE);
        due(x.cell(23, 7), NONE);
        due(x.cell(23, 5), 0);
        due(x.cell(22, 5), 0);
    }

    @Sentence("It also has a tare for each cell (0 at first), which is what the clerk takes for its zero, "
            + "and the minute in which it was set (0 at first).")
    static void terms_aTareAndItsMinuteAre0AtFirst() {
        Ferry x = new Ferry();
        x.setDrift(3, 1);
        x.pass(60);
        for (int cell = 0; cell < 24; cell++) {
            due(x.cell(cell, 3), 0);
            due(x.cell(cell, 4), 0);
        }
    }

    @Sentence("It also has a tare for each cell (0 at first), which is what the clerk takes for its zero, "
            + "and the minute in which it was set (0 at first).")
    static void terms_aTareAndItsMinuteAreKeptUntilTheNextOne() {
        Ferry x = new Ferry();
        x.setDrift(3, -1);
        passTo(x, 2000);
        x.tare(3);
        due(x.cell(3, 3), -2000);
        due(x.cell(3, 4), 2000);
        due(x.cell(2, 4), 0);
        due(x.count(4), 0);
    }

    @Sentence("What is expected of a cell is the sum of all shares that it would get if the book was right, "
            + "and its tare.")
    static void terms_whatIsExpectedOfAnEmptyFloorIsTheTare() {
        Ferry x = new Ferry();
        due(x.cell(9, 5), 0);
        x.setDrift(9, 3);
        x.pass(2);
        due(x.cell(9, 5), 0);
        x.tare(9);
        due(x.cell(9, 5), 6);
        x.pass(1);
        due(x.cell(9, 5), 6);
    }

    @Sentence("What is expected of a cell is the sum of all shares that it would get if the book was right, "
            + "and its tare.")
    static void terms_whatIsExpectedIsByTheBook() {
        Ferry x = new Ferry();
        x.board(100, 80, 0);
        x.board(60, 40, 2);
        x.swap(0, 1);
        // By the book 80 on the cell 0 and 40 on the cell 2: 10 and 5 for the cell between them.
        due(x.cell(0, 5), 60);
        due(x.cell(1, 5), 15);
        due(x.cell(2, 5), 25);
        due(x.cell(8, 5), 5);
        due(x.cell(4, 5), 0);
    }

    @Sentence("The error of the book is the sum, over all cells, of the sizes of the differences "
            + "between the reading and what is expected.")
    static void terms_theErrorOfANewBookIs0() {
        due(new Ferry().count(4), 0);
    }

    @Sentence("The error of the book is the sum, over all cells, of the sizes of the differences "
            + "between the reading and what is expected.")
    static void terms_tooMuchHereAndTooLittleThereAddUp() {
        Ferry x = new Ferry();
        x.setDrift(0, 3);
        x.setDrift(23, -3);
        x.pass(1);
        due(x.count(4), 6);
        x.board(20, 150, 12);
        // 20 and 150 on a cell with three neighbors: 14 for 96, and 2 for 18 three times.
        due(x.count(4), 6 + 130);
    }

    @Sentence("When a walker comes aboard, the clerk enters the cell and the weight that the walker tells.")
    static void terms_theClerkEntersCellAndToldWeight() {
        Ferry x = new Ferry();
        x.board(150, 20, 23);
        due(x.walker(0, 2), 20);
        due(x.walker(0, 3), 23);
        due(x.cell(23, 7), 0);
    }

    @Sentence("Who is aboard can walk to a free cell: the clerk sees that somebody walks from one cell to another, "
            + "and enters the new cell for whom the book has on the old one.")
    static void terms_theNewCellIsEnteredForWhomTheBookHasOnTheOldOne() {
        Ferry x = after(TWO_FAR);
        x.swap(0, 1);
        due(x.walk(0, 22), 1);
        due(x.walker(0, 1), 22);
        due(x.walker(0, 3), 0);
        due(x.walker(1, 1), 0);
        due(x.walker(1, 3), 22);
    }

    @Sentence("Two walkers can change places unseen, so that the book stays as it is.")
    static void terms_theBookStaysWhenTwoChangePlaces() {
        Ferry x = after(TWO_FAR);
        x.swap(0, 1);
        due(x.walker(0, 1), 23);
        due(x.walker(1, 1), 0);
        due(x.walker(0, 3), 0);
        due(x.walker(1, 3), 23);
        due(x.walker(0, 2), 100);
        due(x.walker(1, 2), 60);
        due(x.walker(0, 4), 0);
    }

    @Sentence("Who goes ashore is recognized: if the book has another cell for this walker than the one on which "
            + "the walker stands, the walker whom the book has there gets this other cell in the book; "
            + "then the walker is not in the book any more.")
    static void terms_whomTheBookHasThereGetsTheOtherCell() {
        Ferry x = after(TWO_FAR);
        x.board(40, 40, 10);
        x.swap(0, 1);
        x.swap(0, 2);
        // Now 0 stands on 10, 1 on 0 and 2 on 23; the book has 0 on 0, 1 on 23 and 2 on 10.
        x.leave(0);
        due(x.walker(2, 3), 0);
        due(x.walker(1, 3), 23);
        due(x.walker(0, 3), NONE);
        due(x.cell(10, 7), NONE);
    }

    @Sentence("Who goes ashore is recognized: if the book has another cell for this walker than the one on which "
            + "the walker stands, the walker whom the book has there gets this other cell in the book; "
            + "then the walker is not in the book any more.")
    static void terms_nobodyElseIsTouchedWhenTheBookIsRight() {
        Ferry x = after(TWO_FAR);
        x.leave(0);
        due(x.walker(1, 3), 23);
        due(x.walker(0, 3), NONE);
        due(x.cell(0, 7), NONE);
    }

    // ---- estimates and certainty

    @Sentence("The estimate for a walker is the sum of the readings of all cells that get a share from the walker's "
            + "cell in the book, less their tares, less all shares that these cells would get from the others "
            + "by the book; but at least 0.")
    static void terms_theEstimateIsTheWeightOfWhoIsAlone() {
        Ferry x = new Ferry();
        x.board(150, 20, 8);
        due(x.estimate(0), 150);
    }

    @Sentence("The estimate for a walker is the sum of the readings of all cells that get a share from the walker's "
            + "cell in the book, less their tares, less all shares that these cells would get from the others "
            + "by the book; but at least 0.")
    static void terms_theEstimateIsLessWhatTheBookHasOfOthers() {
        Ferry x = new Ferry();
        x.board(100, 100, 8);
        x.board(80, 40, 10);
        x.board(150, 20, 16);
        // 8 and 10 have the cell 9 between them: 10 stand there of 80, 5 by the book; 16 is too far.
        due(x.estimate(0), 100 + 10 - 5);
    }

    @Sentence("The estimate for a walker is the sum of the readings of all cells that get a share from the walker's "
            + "cell in the book, less their tares, less all shares that these cells would get from the others "
            + "by the book; but at least 0.")
    static void terms_theEstimateCountsTheZerosOfTheseCellsAlone() {
        int[] cells = {8, 2, 14, 7, 9, 1, 3, 13, 15, 6, 10, 20};
        for (int index = 0; index < cells.length; index++) {
            Ferry x = new Ferry();
            x.board(100, 100, 8);
            x.setDrift(cells[index], 2);
            x.pass(3);
            due(x.estimate(0), index < 5 ? 106 : 100);
        }
    }

    @Sentence("The estimate for a walker is the sum of the readings of all cells that get a share from the walker's "
            + "cell in the book, less their tares, less all shares that these cells would get from the others "
            + "by the book; but at least 0.")
    static void terms_theEstimateIsLessTheTares() {
        Ferry x = new Ferry();
        x.setDrift(8, 2);
        x.setDrift(9, -1);
        x.pass(10);
        x.tare(8);
        x.board(100, 100, 8);
        due(x.estimate(0), 90);
        due(x.cell(8, 3), 20);
    }

    @Sentence("The estimate for a walker is the sum of the readings of all cells that get a share from the walker's "
            + "cell in the book, less their tares, less all shares that these cells would get from the others "
            + "by the book; but at least 0.")
    static void terms_theEstimateIs1Then0AndNeverLess() {
        Ferry x = new Ferry();
        x.board(20, 20, 0);
        x.setDrift(0, -1);
        x.pass(19);
        due(x.estimate(0), 1);
        x.pass(1);
        due(x.estimate(0), 0);
        x.pass(1);
        due(x.estimate(0), 0);
    }

    private static final String CERTAINTY = "The certainty of an estimate is 100 percent, less 5 for each minute since "
            + "the earliest setting of a tare of these cells, less 10 for each time that the walker was accused "
            + "(see below), but at least 0.";

    @Sentence(CERTAINTY)
    static void terms_theCertaintyIs100AtFirst() {
        due(after(TWO_FAR).certainty(0), 100);
    }

    @Sentence(CERTAINTY)
    static void terms_theCertaintyIs5LessForAMinuteAnd0After20() {
        Ferry x = after(TWO_FAR);
        for (int minute = 1; minute <= 20; minute++) {
            x.pass(1);
            due(x.certainty(0), 100 - 5 * minute);
        }
        x.pass(1);
        due(x.certainty(0), 0);
    }

    @Sentence(CERTAINTY)
    static void terms_theCertaintyIs10LessForAnAccusationAnd0After10() {
        Ferry x = after(TWO_FAR);
        for (int times = 1; times <= 10; times++) {
            x.accuse(0, 1);
            due(x.certainty(0), 100 - 10 * times);
            due(x.certainty(1), 100 - 10 * times);
        }
        x.accuse(0, 1);
        due(x.certainty(0), 0);
    }

    @Sentence(CERTAINTY)
    static void terms_minutesAndAccusationsAddUpTo0AndNeverLess() {
        Ferry x = after(TWO_FAR);
        x.accuse(0, 1);
        x.pass(17);
        due(x.certainty(0), 5);
        x.pass(1);
        due(x.certainty(0), 0);
        x.pass(1);
        due(x.certainty(0), 0);
    }

    @Sentence(CERTAINTY)
    static void terms_theEarliestOfAllTheseTaresCounts() {
        int[] around = {8, 2, 14, 7, 9};
        for (int last = 0; last < around.length; last++) {
            Ferry x = new Ferry();
            x.pass(4);
            for (int index = 0; index < around.length; index++) {
                if (index != last) {
                    x.tare(around[index]);
                }
            }
            x.pass(1);
            tareAll(x, 1, 3, 13, 15);
            x.board(100, 100, 8);
            due(x.certainty(0), 75);
            x.walk(0, 23);
            x.tare(around[last]);
            x.walk(0, 8);
            due(x.certainty(0), 95);
        }
    }

    @Sentence(CERTAINTY)
    static void terms_theCertaintyIsThatOfTheCellInTheBook() {
        Ferry x = new Ferry();
        x.pass(2);
        tareAll(x, 23, 22, 17);
        TWO_FAR.on(x);
        x.swap(0, 1);
        due(x.certainty(0), 90);
        due(x.certainty(1), 100);
    }

    // ---- bills

    @Sentence("The price is 0 to 100 cents for a kilogram (at first 10).")
    static void terms_thePriceIs10AtFirst() {
        Ferry x = after(TWO_FAR);
        due(x.count(8), 10);
        x.bill(1);
        due(x.walker(1, 6), 600);
    }

    @Sentence("The price is 0 to 100 cents for a kilogram (at first 10).")
    static void terms_theLeastAndTheGreatestPriceAreBilled() {
        Ferry x = after(TWO_FAR);
        x.setPrice(0);
        x.bill(0);
        due(x.walker(0, 6), 0);
        x.setPrice(100);
        x.bill(1);
        due(x.walker(1, 6), 6000);
        due(x.walker(0, 6), 0);
    }

    private static final String BILL = "A bill for a walker is for the estimate times the certainty divided by 100, "
            + "in kilograms; but if all kilograms that were billed so far, of all walkers (less those that were given "
            + "back), and these together are more than the sum of all readings less all tares, by so many kilograms "
            + "less, but at least for 0.";

    @Sentence(BILL)
    static void terms_aBillIsForTheEstimateAtFullCertainty() {
        Ferry x = new Ferry();
        x.board(150, 20, 8);
        due(x.bill(0), 150);
    }

    @Sentence(BILL)
    static void terms_aBillIsForLessAtLessCertainty() {
        Ferry x = new Ferry();
        x.board(99, 99, 8);
        x.pass(1);
        due(x.bill(0), 94);
        x.undo();
        x.pass(18);
        due(x.bill(0), 4);
        x.undo();
        x.pass(1);
        due(x.bill(0), 0);
    }

    /** Two on a floor that reads so many kilograms less on a cell beside neither, and one of them is billed. */
    private static Ferry withOneBilled(int less) {
        Ferry x = new Ferry();
        x.setDrift(9, -1);
        passTo(x, less);
        tareAll(x, 0, 1, 6, 17, 22, 23);
        TWO_FAR.on(x);
        due(x.count(5), 160 - less);
        due(x.bill(0), 100);
        return x;
    }

    @Sentence(BILL)
    static void terms_aBillIsNotCutIfAllTogetherAreJustTheSum() {
        due(withOneBilled(0).bill(1), 60);
    }

    @Sentence(BILL)
    static void terms_aBillIsCutBy1IfAllTogetherAre1More() {
        due(withOneBilled(1).bill(1), 59);
    }

    @Sentence(BILL)
    static void terms_aBillIsCutTo1AndTo0() {
        due(withOneBilled(59).bill(1), 1);
        due(withOneBilled(60).bill(1), 0);
    }

    @Sentence(BILL)
    static void terms_aBillIsAtLeastFor0IfTheSumIsBelow0() {
        Ferry x = new Ferry();
        x.setDrift(23, -3);
        x.pass(40);
        tareAll(x, 0, 1, 6);
        x.board(100, 100, 0);
        due(x.count(5), -20);
        due(x.bill(0), 0);
    }

    @Sentence(BILL)
    static void terms_theSumIsLessAllTares() {
        Ferry x = new Ferry();
        x.setDrift(9, 3);
        x.pass(20);
        tareAll(x, 0, 1, 2, 6, 7, 9);
        x.board(20, 20, 0);
        x.board(150, 20, 1);
        due(x.bill(0), 118);
        due(x.count(5), 230);
        due(x.count(6), 60);
        // The estimate is 150 + 18 less 104, what the book now has of the other who was billed for 118.
        due(x.estimate(1), 64);
        due(x.bill(1), 230 - 60 - 118);
    }

    @Sentence(BILL)
    static void terms_aBillIsAtLeastFor0IfMoreWasBilledThanStandsThere() {
        Ferry x = after(TWO_FAR);
        x.bill(0);
        x.leave(0);
        due(x.count(9), 100);
        due(x.count(5), 60);
        due(x.bill(1), 0);
    }

    @Sentence(BILL)
    static void terms_whatWasGivenBackDoesNotCount() {
        Ferry x = after(BILLED_TOO_MUCH);
        x.leave(0);
        due(x.bill(1), 32);
        x.undo();
        due(x.complain(0), 980);
        due(x.bill(1), 130);
    }

    private static final String BILLED_WEIGHT = "What is billed is entered in the book as the walker's weight, "
            + "if it is at least 20; a walker who has a bill, also one for 0, gets no other one.";

    @Sentence(BILLED_WEIGHT)
    static void terms_19KilogramsAreNotEntered() {
        Ferry x = new Ferry();
        x.board(20, 30, 8);
        x.pass(1);
        due(x.bill(0), 19);
        due(x.walker(0, 2), 30);
    }

    @Sentence(BILLED_WEIGHT)
    static void terms_20KilogramsAreEntered() {
        Ferry x = new Ferry();
        x.board(20, 30, 8);
        due(x.bill(0), 20);
        due(x.walker(0, 2), 20);
        due(x.count(4), 0);
    }

    @Sentence(BILLED_WEIGHT)
    static void terms_moreThanAnyoneCanWeighIsEntered() {
        Ferry x = new Ferry();
        x.board(150, 150, 0);
        x.board(150, 20, 1);
        // 150 and, of the other, 18 + 96 on the cells 0 and 1, where the book has 2 + 14.
        due(x.bill(0), 150 + 114 - 16);
        due(x.walker(0, 2), 248);
        // Now the book has 31 of 248 on each cell beside, and 186 on the cell itself.
        due(x.cell(6, 5), 31);
        due(x.cell(0, 5), 186 + 2);
    }

    @Sentence(BILLED_WEIGHT)
    static void terms_aBillFor0IsNotEnteredAndIsABill() {
        Calls billedFor0 = x -> {
            x.board(20, 30, 8);
            x.pass(20);
            x.bill(0);
        };
        Ferry x = after(billedFor0);
        due(x.walker(0, 5), 0);
        due(x.walker(0, 2), 30);
        leavesAll(billedFor0, y -> y.bill(0), ILLEGAL);
    }

    private static final String COMPLAINT = "Who complains, ashore, is weighed alone: what was billed above the weight "
            + "(perhaps nothing) is given back, at the price of the bill; the bill itself stays as it was.";

    /** One of 50 kilograms beside one of 24 who tells something else, billed and gone ashore. */
    private static Ferry billedBeside(int told, int kilograms) {
        Ferry x = new Ferry();
        x.board(50, 50, 0);
        x.board(24, told, 2);
        due(x.bill(0), kilograms);
        x.leave(0);
        return x;
    }

    @Sentence(COMPLAINT)
    static void terms_nothingIsGivenBackOfABillForTheWeight() {
        due(billedBeside(24, 50).complain(0), 0);
    }

    @Sentence(COMPLAINT)
    static void terms_nothingIsGivenBackOfABillForLess() {
        due(billedBeside(32, 49).complain(0), 0);
    }

    @Sentence(COMPLAINT)
    static void terms_whatWasBilledAboveTheWeightIsGivenBack() {
        Ferry x = billedBeside(23, 51);
        due(x.complain(0), 10);
        due(x.count(9), 50);
    }

    @Sentence(COMPLAINT)
    static void terms_thePriceOfTheBillCountsAndTheBillStays() {
        Ferry x = after(BILLED_TOO_MUCH);
        x.setPrice(100);
        x.leave(0);
        due(x.complain(0), 980);
        due(x.walker(0, 5), 118);
        due(x.walker(0, 6), 1180);
        due(x.walker(0, 7), 980);
        due(x.count(10), 1180);
    }

    // ---- undo

    @Sentence("A history of at most 5 states is kept; a state is everything but the history.")
    static void terms_theHistoryHas0To5States() {
        Ferry x = new Ferry();
        for (int actions = 0; actions <= 7; actions++) {
            due(x.count(3), Math.min(5, actions));
            x.setPrice(actions);
        }
    }

    @Sentence("A history of at most 5 states is kept; a state is everything but the history.")
    static void terms_undoRestoresAllButTheHistory() {
        Calls before = x -> {
            x.setDrift(9, 3);
            x.setDrift(8, -1);
            x.pass(7);
            x.tare(9);
            BILLED_TOO_MUCH.on(x);
            x.leave(0);
            x.complain(0);
            x.board(90, 80, 14);
            x.accuse(1, 2);
            x.swap(1, 2);
        };
        recorded(before, x -> x.setDrift(9, -3), 3);
        recorded(before, x -> x.pass(60), 67);
        recorded(before, x -> x.tare(11), 0);
        recorded(before, x -> x.board(50, 60, 23), 3);
        recorded(before, x -> x.walk(2, 23), 2);
        recorded(before, x -> x.leave(2), 1);
        recorded(before, x -> x.setPrice(100), 10);
        // 143 kilograms, as the cell 8 reads 7 too little, at 55 percent.
        recorded(before, x -> x.bill(1), 78);
        recorded(x -> {
            before.on(x);
            x.bill(1);
            x.leave(1);
        }, x -> x.complain(1), 0);
    }

    @Sentence("Every successful call of a method that is called an action records the state before it "
            + "(also if nothing changes by it);")
    static void terms_anActionThatChangesNothingIsRecorded() {
        recorded(EMPTY_FLOOR, x -> x.setDrift(0, 0), 0);
        recorded(EMPTY_FLOOR, x -> x.tare(0), 0);
        recorded(EMPTY_FLOOR, x -> x.setPrice(10), 10);
    }

    @Sentence("Every successful call of a method that is called an action records the state before it "
            + "(also if nothing changes by it);")
    static void terms_aCallThatFailsIsNotRecorded() {
        leavesAll(EMPTY_FLOOR, x -> x.setDrift(0, 4), INVALID);
        leavesAll(LAST_MINUTE, x -> x.pass(1), ILLEGAL);
        leavesAll(FULL_FLOOR, x -> x.board(20, 20, 23), NO_ROOM);
    }

    @Sentence("Every successful call of a method that is called an action records the state before it "
            + "(also if nothing changes by it);")
    static void terms_aCallThatIsNoActionIsNotRecorded() {
        leavesAll(FULL_FLOOR, x -> x.count(2), 8);
        leavesAll(FULL_FLOOR, x -> x.cell(7, 6), 7);
        leavesAll(FULL_FLOOR, x -> x.walker(7, 0), 146);
        leavesAll(FULL_FLOOR, x -> x.estimate(7), 146);
        leavesAll(FULL_FLOOR, x -> x.certainty(7), 100);
        leavesAll(FULL_FLOOR, x -> x.guess(0), NONE);
        leavesAll(FULL_FLOOR, x -> x.mend(0), 0);
        leavesAll(FULL_FLOOR, x -> x.bestCell(), 8);
        leavesAll(FULL_FLOOR, x -> x.until(7, 100), 1);
    }

    @Sentence("when a sixth one is recorded, the oldest one is dropped.")
    static void terms_theSixthDropsTheOldest() {
        Ferry x = new Ferry();
        for (int price = 1; price <= 6; price++) {
            x.setPrice(price);
        }
        for (int left = 4; left >= 0; left--) {
            due(x.undo(), left);
            due(x.count(8), left + 1);
        }
        due(x.undo(), ILLEGAL);
        due(x.count(8), 1);
    }

    @Sentence("when a sixth one is recorded, the oldest one is dropped.")
    static void terms_theFifthDropsNone() {
        Ferry x = new Ferry();
        for (int price = 1; price <= 5; price++) {
            x.setPrice(price);
        }
        for (int left = 4; left >= 0; left--) {
            due(x.undo(), left);
        }
        due(x.count(8), 10);
    }

    @Sentence("undo() removes the latest state from the history and restores it.")
    static void terms_undoGoesBackStateByState() {
        Ferry x = new Ferry();
        x.setPrice(1);
        x.pass(5);
        due(x.undo(), 1);
        due(x.count(0), 0);
        due(x.count(8), 1);
        due(x.undo(), 0);
        due(x.count(8), 10);
    }

    // ---- errors

    @Sentence("A call that returns an error code changes nothing.")
    static void terms_noRefusedCallChangesAnything() {
        Calls before = x -> {
            FULL_FLOOR.on(x);
            x.bill(0);
            x.leave(0);
            x.complain(0);
        };
        leavesAll(before, x -> x.setDrift(24, 1), INVALID);
        leavesAll(before, x -> x.pass(61), INVALID);
        leavesAll(before, x -> x.tare(1), ILLEGAL);
        leavesAll(before, x -> x.board(20, 20, 1), ILLEGAL);
        leavesAll(before, x -> x.board(20, 20, 0), NO_ROOM);
        leavesAll(before, x -> x.walk(0, 8), ILLEGAL);
        leavesAll(before, x -> x.swap(0, 1), ILLEGAL);
        leavesAll(before, x -> x.leave(0), ILLEGAL);
        leavesAll(before, x -> x.setPrice(101), INVALID);
        leavesAll(before, x -> x.accuse(1, 0), ILLEGAL);
        leavesAll(before, x -> x.bill(0), ILLEGAL);
        leavesAll(before, x -> x.complain(0), ILLEGAL);
        leavesAll(before, x -> x.until(0, 1), ILLEGAL);
    }

    @Sentence("If several error conditions apply, the method returns the one that its description lists first;")
    static void terms_theFirstListedErrorIsReturned() {
        leavesAll(FULL_FLOOR, x -> x.board(19, 20, 0), INVALID);
        leavesAll(FULL_FLOOR, x -> x.board(20, 20, 0), ILLEGAL);
        leavesAll(LAST_MINUTE, x -> x.pass(61), INVALID);
    }

    @Sentence("NONE is no error, and it is returned only if no error condition applies.")
    static void terms_noneIsReturnedOnlyWithoutAnError() {
        leavesAll(TWO_FAR, x -> x.cell(12, 6), NONE);
        leavesAll(TWO_FAR, x -> x.cell(24, 6), INVALID);
        leavesAll(TWO_FAR, x -> x.cell(12, 8), INVALID);
        leavesAll(TWO_FAR, x -> x.walker(1, 5), NONE);
        leavesAll(TWO_FAR, x -> x.walker(2, 5), INVALID);
        leavesAll(TWO_FAR, x -> x.guess(1), NONE);
        leavesAll(TWO_FAR, x -> x.guess(2), INVALID);
    }

    private static void dueConstant(int got, int want) {
        if (got != want) {
            fail("the constant is " + got + ", due is " + want);
        }
    }

    @Sentence("The constants: INVALID_ARGUMENT = -100001: An argument is out of range, "
            + "or names something that does not exist.")
    static void terms_invalidArgument() {
        dueConstant(FerryFloor.INVALID_ARGUMENT, -100001);
        due(new Ferry().pass(61), -100001);
        due(new Ferry().leave(0), -100001);
    }

    @Sentence("ILLEGAL_STATE = -100002: The call is not possible in the present state.")
    static void terms_illegalState() {
        dueConstant(FerryFloor.ILLEGAL_STATE, -100002);
        due(new Ferry().undo(), -100002);
    }

    @Sentence("CAPACITY_EXCEEDED = -100003: There is no room.")
    static void terms_capacityExceeded() {
        dueConstant(FerryFloor.CAPACITY_EXCEEDED, -100003);
        due(after(FULL_FLOOR).board(20, 20, 23), -100003);
    }

    @Sentence("NONE = -100009: There is no such value.")
    static void terms_none() {
        dueConstant(FerryFloor.NONE, -100009);
        due(new Ferry().cell(0, 6), -100009);
    }
}
