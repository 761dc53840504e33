/** Promises 14 to 16, looking: a test for each sentence, with the boundaries that it names. */
public final class LookingTest extends Checks {
    // Beside each other, so that some cells get shares from both.
    private static final Calls TWO = x -> {
        x.board(100, 100, 0);
        x.board(60, 60, 7);
    };

    private static final Calls TWO_AND_ONE_ASHORE = x -> {
        TWO.on(x);
        x.board(30, 40, 23);
        x.leave(2);
    };

    // 0 was billed for 118 and has complained, 1 is aboard and has no bill.
    private static final Calls COMPLAINED = x -> {
        x.board(20, 20, 0);
        x.board(150, 20, 1);
        x.bill(0);
        x.leave(0);
        x.complain(0);
    };

    public static void main(String[] args) {
        runAll(LookingTest.class);
    }

    // ---- promise 14: count

    @Sentence("Returns a number.")
    static void promise14_countChangesNothing() {
        int[] answers = {0, 8, 8, 5, 0, 664, 0, 0, 10, 0, 0, 0};
        for (int what = 0; what <= 11; what++) {
            int asked = what;
            leavesAllKept(FULL_FLOOR, x -> x.count(asked), answers[what]);
        }
    }

    @Sentence("what: 0 the minute,")
    static void promise14_theMinuteIs0To2000() {
        due(new Ferry().count(0), 0);
        due(after(x -> x.pass(1)).count(0), 1);
        due(after(LAST_MINUTE).count(0), 2000);
    }

    @Sentence("1 the number of walkers,")
    static void promise14_theNumberOfWalkersIs0To8() {
        due(new Ferry().count(1), 0);
        due(after(FULL_FLOOR).count(1), 8);
        due(after(TWO_AND_ONE_ASHORE).count(1), 3);
    }

    @Sentence("2 of walkers aboard,")
    static void promise14_theNumberOfWalkersAboardIs0To8() {
        due(new Ferry().count(2), 0);
        due(after(FULL_FLOOR).count(2), 8);
        Ferry x = after(TWO_AND_ONE_ASHORE);
        due(x.count(2), 2);
        x.leave(0);
        x.leave(1);
        due(x.count(2), 0);
    }

    @Sentence("3 of states in the history,")
    static void promise14_theNumberOfStatesIs0To5() {
        Ferry x = new Ferry();
        due(x.count(3), 0);
        for (int actions = 1; actions <= 6; actions++) {
            x.pass(1);
            due(x.count(3), Math.min(5, actions));
        }
        for (int left = 4; left >= 0; left--) {
            x.undo();
            due(x.count(3), left);
        }
        x.undo();
        due(x.count(3), 0);
    }

    @Sentence("4 the error of the book,")
    static void promise14_theErrorIs0OnAnEmptyFloorAndIfAllIsRight() {
        due(new Ferry().count(4), 0);
        due(after(FULL_FLOOR).count(4), 0);
    }

    @Sentence("4 the error of the book,")
    static void promise14_theErrorOfTheFirstAndOfTheLastCellCount() {
        Ferry x = new Ferry();
        x.setDrift(0, 1);
        x.pass(1);
        due(x.count(4), 1);
        x.setDrift(23, -2);
        x.setDrift(0, 0);
        x.pass(1);
        due(x.count(4), 3);
    }

    @Sentence("5 the sum of all readings,")
    static void promise14_theSumOfReadingsIsThatOfWeightsAndZeros() {
        due(new Ferry().count(5), 0);
        Ferry x = after(FULL_FLOOR);
        due(x.count(5), 664);
        x.setDrift(0, -3);
        x.setDrift(23, 2);
        x.pass(60);
        due(x.count(5), 664 - 60);
    }

    @Sentence("5 the sum of all readings,")
    static void promise14_theSumOfReadingsGoesTo144000AndBelow0() {
        for (int drift = -3; drift <= 3; drift += 6) {
            Ferry x = new Ferry();
            for (int cell = 0; cell < 24; cell++) {
                x.setDrift(cell, drift);
            }
            passTo(x, 2000);
            due(x.count(5), 24 * 2000 * drift);
            due(x.count(4), 144000);
        }
    }

    @Sentence("6 the sum of all tares,")
    static void promise14_theSumOfTaresIsThatOfTheTaresSet() {
        due(new Ferry().count(6), 0);
        Ferry x = new Ferry();
        x.setDrift(0, -3);
        x.setDrift(23, 2);
        x.setDrift(12, 1);
        x.pass(60);
        due(x.count(6), 0);
        x.tare(0);
        due(x.count(6), -180);
        x.tare(23);
        due(x.count(6), -60);
        x.tare(1);
        due(x.count(6), -60);
    }

    @Sentence("7 the number of walkers aboard whom the book has on another cell than theirs,")
    static void promise14_theNumberOfWalkersMisplacedIs0To8() {
        Ferry x = after(FULL_FLOOR);
        due(x.count(7), 0);
        for (int walker = 0; walker < 8; walker += 2) {
            x.swap(walker, walker + 1);
            due(x.count(7), walker + 2);
        }
        due(new Ferry().count(7), 0);
    }

    @Sentence("7 the number of walkers aboard whom the book has on another cell than theirs,")
    static void promise14_whoIsAshoreIsNotMisplaced() {
        Ferry x = after(TWO);
        x.swap(0, 1);
        due(x.count(7), 2);
        x.leave(0);
        due(x.count(7), 0);
        x.leave(1);
        due(x.count(7), 0);
    }

    @Sentence("8 the price,")
    static void promise14_thePriceIs0To100() {
        Ferry x = new Ferry();
        due(x.count(8), 10);
        x.setPrice(0);
        due(x.count(8), 0);
        x.setPrice(100);
        due(x.count(8), 100);
    }

    @Sentence("9 the kilograms billed so far (less those that were given back),")
    static void promise14_theKilogramsBilledAreThoseOfAllLessThoseGivenBack() {
        due(new Ferry().count(9), 0);
        Ferry x = after(COMPLAINED);
        due(x.count(9), 118 - 98);
        due(x.bill(1), 130);
        due(x.count(9), 150);
        x.leave(1);
        due(x.count(9), 150);
    }

    @Sentence("10 the amount of all bills,")
    static void promise14_theAmountOfAllBillsIsAtThePriceOfEach() {
        due(new Ferry().count(10), 0);
        Ferry x = after(COMPLAINED);
        due(x.count(10), 1180);
        x.setPrice(100);
        due(x.bill(1), 130);
        due(x.count(10), 1180 + 13000);
        x.leave(1);
        due(x.count(10), 1180 + 13000);
    }

    @Sentence("11 the amount of all that was given back")
    static void promise14_theAmountGivenBackIsThatOfAllComplaints() {
        due(new Ferry().count(11), 0);
        Ferry x = new Ferry();
        // 0 and 2 are both taken for 118, as those beside weigh 130 more than the book has.
        x.board(20, 20, 0);
        x.board(150, 20, 1);
        x.board(20, 20, 23);
        x.board(150, 20, 22);
        x.bill(0);
        x.setPrice(1);
        x.bill(2);
        x.leave(0);
        x.leave(2);
        due(x.count(11), 0);
        due(x.complain(0), 980);
        due(x.count(11), 980);
        due(x.complain(2), 98);
        due(x.count(11), 1078);
    }

    @Sentence("Returns the number;")
    static void promise14_theLeastIsWhat0AndTheGreatest11() {
        Ferry x = after(COMPLAINED);
        x.pass(3);
        due(x.count(0), 3);
        due(x.count(11), 980);
    }

    @Sentence("INVALID_ARGUMENT if what is out of range.")
    static void promise14_noWhatBelow0OrAbove11() {
        leavesAll(EMPTY_FLOOR, x -> x.count(-1), INVALID);
        leavesAll(EMPTY_FLOOR, x -> x.count(12), INVALID);
        leavesAll(EMPTY_FLOOR, x -> x.count(LOWEST), INVALID);
        leavesAll(EMPTY_FLOOR, x -> x.count(HIGHEST), INVALID);
        leavesAll(FULL_FLOOR, x -> x.count(12), INVALID);
    }

    // ---- promise 15: cell

    @Sentence("Returns a property of a cell.")
    static void promise15_cellChangesNothing() {
        // 146 on the cell 7 leave 74 there, and 38 and 128 on the cells 1 and 6 give 4 and 16.
        int[] answers = {94, 0, 0, 0, 0, 94, 7, 7};
        for (int what = 0; what <= 7; what++) {
            int asked = what;
            leavesAll(FULL_FLOOR, x -> x.cell(7, asked), answers[what]);
        }
    }

    @Sentence("cell: 0 to 23")
    static void promise15_theLeastCellIs0() {
        due(after(TWO).cell(0, 0), 76);
        leavesAll(TWO, x -> x.cell(-1, 0), INVALID);
        leavesAll(TWO, x -> x.cell(LOWEST, 6), INVALID);
        leavesAll(TWO, x -> x.cell(NONE, 6), INVALID);
        leavesAll(TWO_AND_ONE_ASHORE, x -> x.cell(NONE, 7), INVALID);
    }

    @Sentence("cell: 0 to 23")
    static void promise15_theGreatestCellIs23() {
        due(after(x -> x.board(80, 80, 23)).cell(23, 0), 60);
        leavesAll(TWO, x -> x.cell(24, 0), INVALID);
        leavesAll(TWO, x -> x.cell(HIGHEST, 7), INVALID);
    }

    @Sentence("what: 0 its reading,")
    static void promise15_theReadingOfAFullCellAndOfAnEmptyFloor() {
        due(new Ferry().cell(7, 0), 0);
        Ferry x = after(TWO);
        due(x.cell(7, 0), 32);
        due(x.cell(1, 0), 12 + 7);
        due(x.cell(9, 0), 0);
    }

    @Sentence("what: 0 its reading,")
    static void promise15_theReadingIsByTheTruth() {
        Ferry x = new Ferry();
        x.board(80, 150, 0);
        x.board(40, 40, 23);
        x.swap(0, 1);
        due(x.cell(0, 0), 30);
        due(x.cell(23, 0), 60);
        due(x.cell(22, 0), 10);
    }

    @Sentence("1 its zero,")
    static void promise15_theZeroIsMinus6000To6000() {
        Ferry x = after(TWO);
        due(x.cell(7, 1), 0);
        x.setDrift(0, -3);
        x.setDrift(7, 3);
        passTo(x, 2000);
        due(x.cell(0, 1), -6000);
        due(x.cell(7, 1), 6000);
        due(x.cell(8, 1), 0);
    }

    @Sentence("2 its drift,")
    static void promise15_theDriftIsMinus3To3() {
        Ferry x = new Ferry();
        for (int drift = -3; drift <= 3; drift++) {
            x.setDrift(11, drift);
            due(x.cell(11, 2), drift);
            due(x.cell(12, 2), 0);
        }
    }

    @Sentence("3 its tare,")
    static void promise15_theTareIsMinus6000To6000() {
        Ferry x = new Ferry();
        x.setDrift(0, -3);
        x.setDrift(23, 3);
        passTo(x, 2000);
        due(x.cell(0, 3), 0);
        x.tare(0);
        x.tare(23);
        due(x.cell(0, 3), -6000);
        due(x.cell(23, 3), 6000);
        due(x.cell(22, 3), 0);
    }

    @Sentence("4 the minute in which its tare was set,")
    static void promise15_theMinuteOfATareIs0To2000() {
        Ferry x = new Ferry();
        x.tare(5);
        due(x.cell(5, 4), 0);
        passTo(x, 1999);
        x.tare(5);
        due(x.cell(5, 4), 1999);
        x.pass(1);
        due(x.cell(5, 4), 1999);
        x.tare(5);
        due(x.cell(5, 4), 2000);
        due(x.cell(6, 4), 0);
    }

    @Sentence("5 what is expected of it,")
    static void promise15_whatIsExpectedIsByTheBook() {
        Ferry x = new Ferry();
        due(x.cell(0, 5), 0);
        x.setDrift(0, -2);
        x.pass(2);
        x.tare(0);
        x.board(80, 120, 0);
        x.board(40, 40, 23);
        x.swap(0, 1);
        due(x.cell(0, 5), 90 - 4);
        due(x.cell(1, 5), 15);
        due(x.cell(23, 5), 30);
    }

    @Sentence("6 the walker on it (NONE if there is none),")
    static void promise15_theWalkerIs0To7OrNone() {
        Ferry x = after(FULL_FLOOR);
        for (int cell = 0; cell < 24; cell++) {
            due(x.cell(cell, 6), cell < 8 ? cell : NONE);
        }
        x.swap(0, 7);
        due(x.cell(0, 6), 7);
        due(x.cell(7, 6), 0);
        x.leave(7);
        due(x.cell(0, 6), NONE);
        due(new Ferry().cell(0, 6), NONE);
    }

    @Sentence("7 the walker whom the book has on it (NONE if there is none)")
    static void promise15_theWalkerInTheBookIs0To7OrNone() {
        Ferry x = after(FULL_FLOOR);
        for (int cell = 0; cell < 24; cell++) {
            due(x.cell(cell, 7), cell < 8 ? cell : NONE);
        }
        x.swap(0, 7);
        due(x.cell(0, 7), 0);
        x.accuse(6, 7);
        due(x.cell(6, 7), 7);
        due(x.cell(7, 7), 6);
        due(new Ferry().cell(0, 7), NONE);
    }

    @Sentence("Returns the property;")
    static void promise15_theLeastIsWhat0AndTheGreatest7() {
        Ferry x = after(TWO);
        due(x.cell(0, 0), 76);
        due(x.cell(7, 7), 1);
    }

    @Sentence("INVALID_ARGUMENT if an argument is out of range.")
    static void promise15_noWhatBelow0OrAbove7() {
        leavesAll(TWO, x -> x.cell(0, -1), INVALID);
        leavesAll(TWO, x -> x.cell(0, 8), INVALID);
        leavesAll(TWO, x -> x.cell(23, LOWEST), INVALID);
        leavesAll(TWO, x -> x.cell(23, HIGHEST), INVALID);
        leavesAll(TWO, x -> x.cell(24, 8), INVALID);
        leavesAll(EMPTY_FLOOR, x -> x.cell(-1, -1), INVALID);
    }

    // ---- promise 16: walker

    @Sentence("Returns a property of a walker.")
    static void promise16_walkerChangesNothing() {
        int[] answers = {146, 7, 146, 7, 0, NONE, 0, 0};
        for (int what = 0; what <= 7; what++) {
            int asked = what;
            leavesAll(FULL_FLOOR, x -> x.walker(7, asked), answers[what]);
        }
    }

    @Sentence("walker: a walker")
    static void promise16_theFirstAndTheLast() {
        Ferry x = after(FULL_FLOOR);
        due(x.walker(0, 0), 20);
        due(x.walker(7, 0), 146);
        x.undo();
        due(x.walker(7, 0), INVALID);
        due(x.walker(6, 0), 128);
    }

    @Sentence("what: 0 the weight,")
    static void promise16_theWeightIs20To150AlsoAshore() {
        Ferry x = new Ferry();
        x.board(20, 100, 0);
        x.board(150, 100, 23);
        due(x.walker(0, 0), 20);
        due(x.walker(1, 0), 150);
        x.bill(1);
        x.leave(1);
        due(x.walker(1, 0), 150);
    }

    @Sentence("1 the cell (NONE ashore),")
    static void promise16_theCellIs0To23OrNone() {
        Ferry x = new Ferry();
        x.board(20, 100, 0);
        x.board(150, 100, 23);
        due(x.walker(0, 1), 0);
        due(x.walker(1, 1), 23);
        x.swap(0, 1);
        due(x.walker(0, 1), 23);
        due(x.walker(1, 1), 0);
        x.leave(1);
        due(x.walker(1, 1), NONE);
    }

    @Sentence("2 the weight in the book and 3 the cell in the book (NONE ashore),")
    static void promise16_theWeightInTheBookIs20To150OrNone() {
        Ferry x = new Ferry();
        x.board(100, 20, 0);
        x.board(100, 150, 23);
        due(x.walker(0, 2), 20);
        due(x.walker(1, 2), 150);
        x.leave(1);
        due(x.walker(1, 2), NONE);
        due(x.walker(0, 2), 20);
        due(x.bill(0), 100);
        due(x.walker(0, 2), 100);
    }

    @Sentence("2 the weight in the book and 3 the cell in the book (NONE ashore),")
    static void promise16_theCellInTheBookIs0To23OrNone() {
        Ferry x = new Ferry();
        x.board(100, 20, 0);
        x.board(100, 150, 23);
        x.swap(0, 1);
        due(x.walker(0, 3), 0);
        due(x.walker(1, 3), 23);
        x.leave(1);
        due(x.walker(1, 3), NONE);
        due(x.walker(0, 3), 23);
    }

    @Sentence("4 how often the walker was accused,")
    static void promise16_accusationsAreCountedFrom0AlsoAshore() {
        Ferry x = after(TWO_AND_ONE_ASHORE);
        due(x.walker(0, 4), 0);
        due(x.walker(2, 4), 0);
        x.accuse(0, 1);
        x.accuse(1, 0);
        due(x.walker(0, 4), 2);
        x.leave(0);
        due(x.walker(0, 4), 2);
        due(x.walker(2, 4), 0);
    }

    @Sentence("5 the kilograms of the bill (NONE without one),")
    static void promise16_theKilogramsAreNoneWithoutABillAnd0OfABillFor0() {
        Ferry x = after(TWO);
        due(x.walker(0, 5), NONE);
        x.bill(0);
        due(x.walker(0, 5), 100);
        x.pass(20);
        x.bill(1);
        due(x.walker(1, 5), 0);
        x.leave(0);
        due(x.walker(0, 5), 100);
        due(after(TWO_AND_ONE_ASHORE).walker(2, 5), NONE);
    }

    @Sentence("6 the amount of the bill (0 without one),")
    static void promise16_theAmountIs0WithoutABillAndStaysAshore() {
        Ferry x = after(TWO);
        due(x.walker(0, 6), 0);
        x.setPrice(100);
        x.bill(0);
        due(x.walker(0, 6), 10000);
        x.leave(0);
        due(x.walker(0, 6), 10000);
        due(x.walker(1, 6), 0);
    }

    @Sentence("7 the amount that was given back")
    static void promise16_theAmountGivenBackIs0WithoutAComplaint() {
        Ferry x = after(COMPLAINED);
        due(x.walker(0, 7), 980);
        due(x.walker(1, 7), 0);
        x.undo();
        due(x.walker(0, 7), 0);
        due(after(TWO_AND_ONE_ASHORE).walker(2, 7), 0);
    }

    @Sentence("Returns the property;")
    static void promise16_theLeastIsWhat0AndTheGreatest7() {
        Ferry x = after(COMPLAINED);
        due(x.walker(0, 0), 20);
        due(x.walker(0, 7), 980);
    }

    @Sentence("INVALID_ARGUMENT if there is no such walker or what is out of range.")
    static void promise16_nobodyBelow0OrBeyondTheLast() {
        leavesAll(EMPTY_FLOOR, x -> x.walker(0, 0), INVALID);
        leavesAll(TWO, x -> x.walker(-1, 0), INVALID);
        leavesAll(TWO, x -> x.walker(2, 1), INVALID);
        leavesAll(TWO, x -> x.walker(7, 5), INVALID);
        leavesAll(TWO, x -> x.walker(LOWEST, 0), INVALID);
        leavesAll(TWO, x -> x.walker(HIGHEST, 0), INVALID);
        leavesAll(FULL_FLOOR, x -> x.walker(8, 0), INVALID);
    }

    @Sentence("INVALID_ARGUMENT if there is no such walker or what is out of range.")
    static void promise16_noWhatBelow0OrAbove7() {
        leavesAll(TWO, x -> x.walker(0, -1), INVALID);
        leavesAll(TWO, x -> x.walker(0, 8), INVALID);
        leavesAll(TWO, x -> x.walker(1, LOWEST), INVALID);
        leavesAll(TWO, x -> x.walker(1, HIGHEST), INVALID);
        leavesAll(TWO_AND_ONE_ASHORE, x -> x.walker(2, 8), INVALID);
    }
}
