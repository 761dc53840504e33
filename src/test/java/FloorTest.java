/** Promises 1 to 4, a new object and the floor: a test for each sentence, with the boundaries that it names. */
public final class FloorTest extends Checks {
    private static final Calls ONE_IN_THE_MIDDLE = x -> x.board(20, 20, 8);

    public static void main(String[] args) {
        runAll(FloorTest.class);
    }

    // ---- promise 1: a new object

    @Sentence("Creates an empty floor, at minute 0.")
    static void promise1_nobodyIsAboardOrAshore() {
        Ferry x = new Ferry();
        due(x.count(1), 0);
        due(x.count(2), 0);
        due(x.count(7), 0);
        due(x.walker(0, 0), INVALID);
    }

    @Sentence("Creates an empty floor, at minute 0.")
    static void promise1_nobodyIsOnACellOrInTheBook() {
        Ferry x = new Ferry();
        for (int cell = 0; cell < 24; cell++) {
            due(x.cell(cell, 6), NONE);
            due(x.cell(cell, 7), NONE);
        }
    }

    @Sentence("Creates an empty floor, at minute 0.")
    static void promise1_allCellsReadAndExpect0() {
        Ferry x = new Ferry();
        for (int cell = 0; cell < 24; cell++) {
            for (int what = 0; what <= 5; what++) {
                due(x.cell(cell, what), 0);
            }
        }
        due(x.count(4), 0);
        due(x.count(5), 0);
        due(x.count(6), 0);
    }

    @Sentence("Creates an empty floor, at minute 0.")
    static void promise1_itIsTheMinute0() {
        due(new Ferry().count(0), 0);
    }

    @Sentence("Creates an empty floor, at minute 0.")
    static void promise1_nothingIsBilledAndThePriceIs10() {
        Ferry x = new Ferry();
        due(x.count(8), 10);
        due(x.count(9), 0);
        due(x.count(10), 0);
        due(x.count(11), 0);
    }

    @Sentence("Creates an empty floor, at minute 0.")
    static void promise1_nothingIsKeptToUndo() {
        Ferry x = new Ferry();
        due(x.count(3), 0);
        due(x.undo(), ILLEGAL);
    }

    @Sentence("Creates an empty floor, at minute 0.")
    static void promise1_noObjectKnowsOfAnother() {
        Ferry x = after(FULL_FLOOR);
        x.pass(60);
        Ferry y = new Ferry();
        due(y.count(0), 0);
        due(y.count(1), 0);
        due(y.board(20, 20, 0), 0);
        due(x.count(1), 8);
        due(x.count(3), 5);
    }

    // ---- promise 2: setDrift

    @Sentence("Sets the drift of a cell.")
    static void promise2_thisCellAloneGetsTheDrift() {
        Ferry x = new Ferry();
        x.setDrift(8, 3);
        for (int cell = 0; cell < 24; cell++) {
            due(x.cell(cell, 2), cell == 8 ? 3 : 0);
        }
    }

    @Sentence("Sets the drift of a cell.")
    static void promise2_theZeroStaysUntilMinutesPass() {
        Ferry x = new Ferry();
        x.setDrift(8, 3);
        due(x.cell(8, 1), 0);
        x.pass(2);
        x.setDrift(8, -3);
        due(x.cell(8, 1), 6);
        due(x.cell(8, 0), 6);
        x.pass(1);
        due(x.cell(8, 1), 3);
    }

    @Sentence("This is an action.")
    static void promise2_setDriftIsRecorded() {
        recorded(EMPTY_FLOOR, x -> x.setDrift(23, 3), 0);
        recorded(FULL_FLOOR, x -> x.setDrift(0, -3), 0);
    }

    @Sentence("This is an action.")
    static void promise2_theSameDriftIsRecordedToo() {
        recorded(x -> x.setDrift(5, 2), x -> x.setDrift(5, 2), 2);
    }

    @Sentence("cell: 0 to 23")
    static void promise2_theLeastCellIs0() {
        Ferry x = new Ferry();
        due(x.setDrift(0, 1), 0);
        due(x.cell(0, 2), 1);
        leavesAll(EMPTY_FLOOR, y -> y.setDrift(-1, 1), INVALID);
        leavesAll(EMPTY_FLOOR, y -> y.setDrift(LOWEST, 1), INVALID);
    }

    @Sentence("cell: 0 to 23")
    static void promise2_theGreatestCellIs23() {
        Ferry x = new Ferry();
        due(x.setDrift(23, 1), 0);
        due(x.cell(23, 2), 1);
        leavesAll(EMPTY_FLOOR, y -> y.setDrift(24, 1), INVALID);
        leavesAll(EMPTY_FLOOR, y -> y.setDrift(HIGHEST, 1), INVALID);
    }

    @Sentence("drift: -3 to 3")
    static void promise2_theLeastDriftIsMinus3() {
        Ferry x = new Ferry();
        due(x.setDrift(9, -3), 0);
        due(x.cell(9, 2), -3);
        leavesAll(EMPTY_FLOOR, y -> y.setDrift(9, -4), INVALID);
        leavesAll(EMPTY_FLOOR, y -> y.setDrift(9, LOWEST), INVALID);
    }

    @Sentence("drift: -3 to 3")
    static void promise2_theGreatestDriftIs3() {
        Ferry x = new Ferry();
        due(x.setDrift(9, 3), 0);
        due(x.cell(9, 2), 3);
        leavesAll(EMPTY_FLOOR, y -> y.setDrift(9, 4), INVALID);
        leavesAll(EMPTY_FLOOR, y -> y.setDrift(9, HIGHEST), INVALID);
    }

    @Sentence("Returns the previous drift;")
    static void promise2_thePreviousDriftIsAnswered() {
        Ferry x = new Ferry();
        due(x.setDrift(9, -3), 0);
        due(x.setDrift(9, 3), -3);
        due(x.setDrift(9, 0), 3);
        due(x.setDrift(8, 1), 0);
        due(x.undo(), 3);
        due(x.setDrift(9, 1), 0);
    }

    @Sentence("INVALID_ARGUMENT if an argument is out of range.")
    static void promise2_setDriftIsRefusedForEitherArgument() {
        leavesAll(x -> x.setDrift(23, 2), x -> x.setDrift(24, 0), INVALID);
        leavesAll(x -> x.setDrift(23, 2), x -> x.setDrift(23, 4), INVALID);
        leavesAll(x -> x.setDrift(23, 2), x -> x.setDrift(-1, -4), INVALID);
    }

    // ---- promise 3: pass

    @Sentence("Lets minutes pass.")
    static void promise3_theMinuteAndTheZerosGoOn() {
        Ferry x = new Ferry();
        x.setDrift(0, -1);
        x.setDrift(23, 2);
        x.pass(7);
        due(x.count(0), 7);
        due(x.cell(0, 1), -7);
        due(x.cell(23, 1), 14);
        due(x.cell(1, 1), 0);
        x.pass(1);
        due(x.count(0), 8);
        due(x.cell(0, 1), -8);
        due(x.cell(23, 1), 16);
    }

    @Sentence("Lets minutes pass.")
    static void promise3_taresAndDriftsStay() {
        Ferry x = new Ferry();
        x.setDrift(0, -1);
        x.pass(7);
        x.tare(0);
        x.pass(60);
        due(x.cell(0, 2), -1);
        due(x.cell(0, 3), -7);
        due(x.cell(0, 4), 7);
    }

    @Sentence("This is an action.")
    static void promise3_passIsRecorded() {
        recorded(x -> x.setDrift(4, 3), x -> x.pass(60), 60);
        recorded(x -> passTo(x, 1999), x -> x.pass(1), 2000);
    }

    @Sentence("minutes: 1 to 60")
    static void promise3_theLeastIs1Minute() {
        due(new Ferry().pass(1), 1);
        leavesAll(EMPTY_FLOOR, x -> x.pass(0), INVALID);
        leavesAll(EMPTY_FLOOR, x -> x.pass(-1), INVALID);
        leavesAll(EMPTY_FLOOR, x -> x.pass(LOWEST), INVALID);
    }

    @Sentence("minutes: 1 to 60")
    static void promise3_theGreatestIs60Minutes() {
        due(new Ferry().pass(60), 60);
        leavesAll(EMPTY_FLOOR, x -> x.pass(61), INVALID);
        leavesAll(EMPTY_FLOOR, x -> x.pass(HIGHEST), INVALID);
    }

    @Sentence("Returns the minute that is now;")
    static void promise3_theMinuteIsAnswered() {
        Ferry x = new Ferry();
        due(x.pass(60), 60);
        due(x.pass(1), 61);
        due(x.pass(59), 120);
        due(x.undo(), 2);
        due(x.pass(2), 63);
    }

    @Sentence("INVALID_ARGUMENT if minutes is out of range;")
    static void promise3_outOfRangeIsToldFirstAtTheLastMinute() {
        leavesAll(LAST_MINUTE, x -> x.pass(0), INVALID);
        leavesAll(LAST_MINUTE, x -> x.pass(61), INVALID);
        leavesAll(LAST_MINUTE, x -> x.pass(HIGHEST), INVALID);
    }

    @Sentence("ILLEGAL_STATE if it would be later than 2000.")
    static void promise3_theMinute2000IsReached() {
        due(after(x -> passTo(x, 1940)).pass(60), 2000);
        due(after(x -> passTo(x, 1941)).pass(59), 2000);
        due(after(x -> passTo(x, 1999)).pass(1), 2000);
    }

    @Sentence("ILLEGAL_STATE if it would be later than 2000.")
    static void promise3_theMinute2001IsNot() {
        leavesAll(x -> passTo(x, 1941), x -> x.pass(60), ILLEGAL);
        leavesAll(x -> passTo(x, 1999), x -> x.pass(2), ILLEGAL);
        leavesAll(LAST_MINUTE, x -> x.pass(1), ILLEGAL);
        leavesAll(LAST_MINUTE, x -> x.pass(60), ILLEGAL);
    }

    @Sentence("ILLEGAL_STATE if it would be later than 2000.")
    static void promise3_whatIsUndoneCanPassAgain() {
        Ferry x = after(LAST_MINUTE);
        due(x.pass(1), ILLEGAL);
        due(x.undo(), 4);
        due(x.pass(20), 2000);
    }

    // ---- promise 4: tare

    @Sentence("Sets the tare of a cell to its reading.")
    static void promise4_thisCellAloneGetsItsReadingAndTheMinute() {
        Ferry x = new Ferry();
        for (int cell = 0; cell < 24; cell++) {
            x.setDrift(cell, cell % 2 == 0 ? 3 : -3);
        }
        x.pass(5);
        x.tare(9);
        for (int cell = 0; cell < 24; cell++) {
            due(x.cell(cell, 3), cell == 9 ? -15 : 0);
            due(x.cell(cell, 4), cell == 9 ? 5 : 0);
        }
        due(x.cell(9, 1), -15);
        due(x.count(4), 23 * 15);
    }

    @Sentence("Sets the tare of a cell to its reading.")
    static void promise4_aLaterTareTakesThePlaceOfTheFirst() {
        Ferry x = new Ferry();
        x.setDrift(9, 1);
        x.pass(5);
        x.tare(9);
        x.pass(1);
        due(x.tare(9), 6);
        due(x.cell(9, 3), 6);
        due(x.cell(9, 4), 6);
    }

    @Sentence("This is an action.")
    static void promise4_tareIsRecorded() {
        recorded(x -> {
            x.setDrift(23, -3);
            x.pass(60);
        }, x -> x.tare(23), -180);
    }

    @Sentence("This is an action.")
    static void promise4_theSameTareIsRecordedToo() {
        recorded(EMPTY_FLOOR, x -> x.tare(0), 0);
        recorded(x -> x.tare(0), x -> x.tare(0), 0);
    }

    @Sentence("cell: 0 to 23")
    static void promise4_theLeastCellIs0() {
        Ferry x = after(y -> y.setDrift(0, 1));
        x.pass(2);
        due(x.tare(0), 2);
        due(x.cell(0, 3), 2);
        leavesAll(EMPTY_FLOOR, y -> y.tare(-1), INVALID);
        leavesAll(EMPTY_FLOOR, y -> y.tare(LOWEST), INVALID);
    }

    @Sentence("cell: 0 to 23")
    static void promise4_theGreatestCellIs23() {
        Ferry x = after(y -> y.setDrift(23, 1));
        x.pass(2);
        due(x.tare(23), 2);
        due(x.cell(23, 3), 2);
        leavesAll(EMPTY_FLOOR, y -> y.tare(24), INVALID);
        leavesAll(EMPTY_FLOOR, y -> y.tare(HIGHEST), INVALID);
    }

    @Sentence("Returns the tare then;")
    static void promise4_theLeastAndTheGreatestTareAreAnswered() {
        Ferry x = new Ferry();
        due(x.tare(12), 0);
        x.setDrift(0, -3);
        x.setDrift(23, 3);
        passTo(x, 2000);
        due(x.tare(0), -6000);
        due(x.tare(23), 6000);
        due(x.tare(12), 0);
    }

    @Sentence("INVALID_ARGUMENT if cell is out of range;")
    static void promise4_tareIsRefusedOutsideOfAFullFloorToo() {
        leavesAll(FULL_FLOOR, x -> x.tare(24), INVALID);
        leavesAll(FULL_FLOOR, x -> x.tare(-1), INVALID);
    }

    @Sentence("ILLEGAL_STATE if the cell gets a share above 0 from anybody.")
    static void promise4_noTareUnderTheLeastWeight() {
        leavesAll(ONE_IN_THE_MIDDLE, x -> x.tare(8), ILLEGAL);
    }

    @Sentence("ILLEGAL_STATE if the cell gets a share above 0 from anybody.")
    static void promise4_noTareOnTheFourCellsBeside() {
        for (int cell : new int[] {2, 14, 7, 9}) {
            leavesAll(ONE_IN_THE_MIDDLE, x -> x.tare(cell), ILLEGAL);
        }
    }

    @Sentence("ILLEGAL_STATE if the cell gets a share above 0 from anybody.")
    static void promise4_aTareOnAllOtherCells() {
        for (int cell : new int[] {0, 1, 3, 4, 5, 6, 10, 11, 12, 13, 15, 16, 17, 18, 19, 20, 21, 22, 23}) {
            Ferry x = after(ONE_IN_THE_MIDDLE);
            x.setDrift(cell, 2);
            x.pass(3);
            due(x.tare(cell), 6);
        }
    }

    @Sentence("ILLEGAL_STATE if the cell gets a share above 0 from anybody.")
    static void promise4_aTareBeyondTheEndOfARow() {
        Ferry x = after(y -> y.board(150, 150, 5));
        due(x.tare(6), 0);
        due(x.tare(4), ILLEGAL);
        x.walk(0, 12);
        due(x.tare(11), 0);
        due(x.tare(13), ILLEGAL);
    }

    @Sentence("ILLEGAL_STATE if the cell gets a share above 0 from anybody.")
    static void promise4_noTareIfTheLastWalkerAloneIsNear() {
        leavesAll(x -> {
            FULL_FLOOR.on(x);
            x.walk(7, 23);
        }, x -> x.tare(22), ILLEGAL);
    }

    @Sentence("ILLEGAL_STATE if the cell gets a share above 0 from anybody.")
    static void promise4_onAFullFloorATareWhereNobodyIsNear() {
        // Eight stand on the cells 0 to 7: the cells 8 to 13 are beside or below one of them.
        for (int cell = 0; cell < 24; cell++) {
            due(after(FULL_FLOOR).tare(cell), cell <= 13 ? ILLEGAL : 0);
        }
    }

    @Sentence("ILLEGAL_STATE if the cell gets a share above 0 from anybody.")
    static void promise4_theZeroDoesNotHideAShare() {
        // The reading of the cell beside is 2 - 2, and that of the walker's cell 12 - 12.
        leavesAll(x -> {
            x.setDrift(9, -2);
            x.pass(1);
            ONE_IN_THE_MIDDLE.on(x);
        }, x -> x.tare(9), ILLEGAL);
        leavesAll(x -> {
            x.setDrift(8, -3);
            x.pass(4);
            ONE_IN_THE_MIDDLE.on(x);
        }, x -> x.tare(8), ILLEGAL);
    }

    @Sentence("ILLEGAL_STATE if the cell gets a share above 0 from anybody.")
    static void promise4_aTareWhenAllAreGone() {
        Ferry x = after(ONE_IN_THE_MIDDLE);
        x.walk(0, 23);
        due(x.tare(8), 0);
        x.leave(0);
        due(x.tare(23), 0);
        due(x.tare(22), 0);
    }
}
