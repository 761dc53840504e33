/** The weighing floor of a ferry and its clerk, as ../shared/DOC.md promises them. */
public final class FerryFloor {
    public static final int INVALID_ARGUMENT = -100001;
    public static final int ILLEGAL_STATE = -100002;
    public static final int CAPACITY_EXCEEDED = -100003;
    public static final int NONE = -100009;

    private static final int COLUMNS = 6;
    private static final int CELLS = 24;
    // A cell and its neighbors are gone through by side: side 0 is the cell itself.
    private static final int FIRST_NEIGHBOR = 1;
    private static final int SIDES = 5;
    private static final int SHARE_DIVISOR = 8;
    private static final int MOST_DRIFT = 3;
    private static final int MOST_MINUTES = 60;
    private static final int LAST_MINUTE = 2000;
    private static final int MOST_WALKERS = 8;
    private static final int LEAST_WEIGHT = 20;
    private static final int MOST_WEIGHT = 150;
    private static final int FIRST_PRICE = 10;
    private static final int MOST_PRICE = 100;
    private static final int PERCENT = 100;
    private static final int LOSS_FOR_MINUTE = 5;
    private static final int LOSS_FOR_ACCUSATION = 10;
    private static final int MOST_STATES = 5;
    private static final int PAIR_FACTOR = 10;
    // Each exchange makes the error less, so no order of the 8 walkers (of 40320) comes twice.
    private static final int MOST_EXCHANGES = 40320;

    private final State now = new State();
    private final State[] history = new State[MOST_STATES];
    private int oldest = 0;
    private int kept = 0;

    // Rows that are filled anew by each call that needs them, so that no call makes an array.
    private final int[] readings = new int[CELLS];
    private final int[] expected = new int[CELLS];
    private final int[] trial = new int[MOST_WALKERS];

    public FerryFloor() {
        for (int slot = 0; slot < MOST_STATES; slot++) {
            history[slot] = new State();
        }
    }

    // ---- the floor

    public int setDrift(int cell, int drift) {
        if (!isCell(cell) || !isWithin(drift, -MOST_DRIFT, MOST_DRIFT)) {
            return INVALID_ARGUMENT;
        }
        remember();
        int previous = now.drifts[cell];
        now.drifts[cell] = drift;
        return previous;
    }

    public int pass(int minutes) {
        if (!isWithin(minutes, 1, MOST_MINUTES)) {
            return INVALID_ARGUMENT;
        }
        if (now.minute + minutes > LAST_MINUTE) {
            return ILLEGAL_STATE;
        }
        remember();
        for (int cell = 0; cell < CELLS; cell++) {
            now.zeros[cell] += now.drifts[cell] * minutes;
        }
        now.minute += minutes;
        return now.minute;
    }

    public int tare(int cell) {
        if (!isCell(cell)) {
            return INVALID_ARGUMENT;
        }
        weighAll();
        // No share is below 0, so the reading is above the zero if any share is above 0.
        if (readings[cell] > now.zeros[cell]) {
            return ILLEGAL_STATE;
        }
        remember();
        now.tares[cell] = readings[cell];
        now.tareMinutes[cell] = now.minute;
        return now.tares[cell];
    }

    // ---- walkers

    public int board(int weight, int told, int cell) {
        if (!isWeight(weight) || !isWeight(told) || !isCell(cell)) {
            return INVALID_ARGUMENT;
        }
        if (whoIsOn(now.places, cell) != NONE) {
            return ILLEGAL_STATE;
        }
        int walker = now.walkers;
        if (!isWithin(walker, 0, MOST_WALKERS - 1)) {
            return CAPACITY_EXCEEDED;
        }
        remember();
        now.weights[walker] = weight;
        now.places[walker] = cell;
        now.bookWeights[walker] = told;
        now.bookPlaces[walker] = cell;
        now.walkers++;
        return walker;
    }

    public int walk(int walker, int cell) {
        if (!isWalker(walker) || !isCell(cell)) {
            return INVALID_ARGUMENT;
        }
        if (!isAboard(walker) || whoIsOn(now.places, cell) != NONE) {
            return ILLEGAL_STATE;
        }
        remember();
        int taken = whoIsOn(now.bookPlaces, now.places[walker]);
        now.places[walker] = cell;
        if (isWalker(taken)) {
            now.bookPlaces[taken] = cell;
        }
        return taken;
    }

    public int swap(int one, int other) {
        if (!isPair(one, other)) {
            return INVALID_ARGUMENT;
        }
        if (!isAboard(one) || !isAboard(other)) {
            return ILLEGAL_STATE;
        }
        remember();
        exchange(now.places, one, other);
        return errorWith(now.bookPlaces);
    }

    public int leave(int walker) {
        if (!isWalker(walker)) {
            return INVALID_ARGUMENT;
        }
        if (!isAboard(walker)) {
            return ILLEGAL_STATE;
        }
        remember();
        int place = now.places[walker];
        int bookPlace = now.bookPlaces[walker];
        int taken = whoIsOn(now.bookPlaces, place);
        if (isWalker(taken)) {
            now.bookPlaces[taken] = bookPlace;
        }
        now.places[walker] = NONE;
        now.bookPlaces[walker] = NONE;
        return place == bookPlace ? 1 : 0;
    }

    // ---- the clerk

    public int setPrice(int price) {
        if (!isWithin(price, 0, MOST_PRICE)) {
            return INVALID_ARGUMENT;
        }
        remember();
        int previous = now.price;
        now.price = price;
        return previous;
    }

    public int accuse(int one, int other) {
        if (!isPair(one, other)) {
            return INVALID_ARGUMENT;
        }
        if (!isAboard(one) || !isAboard(other)) {
            return ILLEGAL_STATE;
        }
        remember();
        exchange(now.bookPlaces, one, other);
        now.accusations[one]++;
        now.accusations[other]++;
        return errorWith(now.bookPlaces);
    }

    public int bill(int walker) {
        if (!isWalker(walker)) {
            return INVALID_ARGUMENT;
        }
        if (!isAboard(walker) || now.billKilograms[walker] != NONE) {
            return ILLEGAL_STATE;
        }
        remember();
        int kilograms = kilogramsToBill(walker);
        now.billKilograms[walker] = kilograms;
        now.billPrices[walker] = now.price;
        if (kilograms >= LEAST_WEIGHT) {
            now.bookWeights[walker] = kilograms;
        }
        return kilograms;
    }

    public int complain(int walker) {
        if (!isWalker(walker)) {
            return INVALID_ARGUMENT;
        }
        if (isAboard(walker) || now.billKilograms[walker] == NONE || now.backKilograms[walker] != NONE) {
            return ILLEGAL_STATE;
        }
        remember();
        now.backKilograms[walker] = Math.max(0, now.billKilograms[walker] - now.weights[walker]);
        return backAmount(walker);
    }

    public int undo() {
        if (kept <= 0) {
            return ILLEGAL_STATE;
        }
        kept--;
        State latest = history[slotAfter(kept)];
        if (latest != null) {
            now.copyFrom(latest);
        }
        return kept;
    }

    // ---- looking

    public int count(int what) {
        switch (what) {
            case 0: return now.minute;
            case 1: return now.walkers;
            case 2: return walkersAboard();
            case 3: return kept;
            case 4: return errorWith(now.bookPlaces);
            case 5: return sumOfReadings();
            case 6: return sumOf(now.tares);
            case 7: return walkersMisplaced();
            case 8: return now.price;
            case 9: return kilogramsBilled();
            case 10: return sumOfBillAmounts();
            case 11: return sumOfBackAmounts();
            default: return INVALID_ARGUMENT;
        }
    }

    public int cell(int cell, int what) {
        if (!isCell(cell)) {
            return INVALID_ARGUMENT;
        }
        switch (what) {
            case 0:
                weighAll();
                return readings[cell];
            case 1: return now.zeros[cell];
            case 2: return now.drifts[cell];
            case 3: return now.tares[cell];
            case 4: return now.tareMinutes[cell];
            case 5:
                expectAll(now.bookPlaces);
                return expected[cell];
            case 6: return whoIsOn(now.places, cell);
            case 7: return whoIsOn(now.bookPlaces, cell);
            default: return INVALID_ARGUMENT;
        }
    }

    public int walker(int walker, int what) {
        if (!isWalker(walker)) {
            return INVALID_ARGUMENT;
        }
        switch (what) {
            case 0: return now.weights[walker];
            case 1: return now.places[walker];
            case 2: return isAboard(walker) ? now.bookWeights[walker] : NONE;
            case 3: return now.bookPlaces[walker];
            case 4: return now.accusations[walker];
            case 5: return now.billKilograms[walker];
            case 6: return billAmount(walker);
            case 7: return backAmount(walker);
            default: return INVALID_ARGUMENT;
        }
    }

    // ---- what the clerk can tell

    public int estimate(int walker) {
        if (!isWalker(walker)) {
            return INVALID_ARGUMENT;
        }
        if (!isAboard(walker)) {
            return ILLEGAL_STATE;
        }
        return estimateFor(walker);
    }

    public int certainty(int walker) {
        if (!isWalker(walker)) {
            return INVALID_ARGUMENT;
        }
        if (!isAboard(walker)) {
            return ILLEGAL_STATE;
        }
        return certaintyFor(walker);
    }

    public int guess(int what) {
        if (!isWithin(what, 0, 1)) {
            return INVALID_ARGUMENT;
        }
        copyRow(now.bookPlaces, trial);
        int pair = bestExchange(trial);
        if (pair == NONE || what == 0) {
            return pair;
        }
        exchangePair(trial, pair);
        return errorWith(trial);
    }

    public int mend(int what) {
        if (!isWithin(what, 0, 1)) {
            return INVALID_ARGUMENT;
        }
        copyRow(now.bookPlaces, trial);
        int exchanges = 0;
        int pair = bestExchange(trial);
        while (pair != NONE && exchanges < MOST_EXCHANGES) {
            exchangePair(trial, pair);
            exchanges++;
            pair = bestExchange(trial);
        }
        return what == 0 ? exchanges : errorWith(trial);
    }

    public int bestCell() {
        int best = NONE;
        int latest = NONE;
        for (int cell = 0; cell < CELLS; cell++) {
            if (whoIsOn(now.places, cell) == NONE) {
                int earliest = earliestTare(cell);
                if (best == NONE || earliest > latest) {
                    best = cell;
                    latest = earliest;
                }
            }
        }
        return best;
    }

    public int until(int walker, int bound) {
        if (!isWalker(walker) || !isWithin(bound, 1, PERCENT)) {
            return INVALID_ARGUMENT;
        }
        if (!isAboard(walker)) {
            return ILLEGAL_STATE;
        }
        int above = certaintyFor(walker) - bound;
        return above < 0 ? 0 : above / LOSS_FOR_MINUTE + 1;
    }

    // ---- tests of arguments

    private static boolean isWithin(int value, int least, int most) {
        return value >= least && value <= most;
    }

    private static boolean isCell(int cell) {
        return cell >= 0 && cell < CELLS;
    }

    private static boolean isWeight(int weight) {
        return isWithin(weight, LEAST_WEIGHT, MOST_WEIGHT);
    }

    private boolean isWalker(int walker) {
        return walker >= 0 && walker < now.walkers && walker < MOST_WALKERS;
    }

    private boolean isPair(int one, int other) {
        return isWalker(one) && isWalker(other) && one != other;
    }

    private boolean isAboard(int walker) {
        return isWalker(walker) && now.places[walker] != NONE;
    }

    // ---- cells and shares

    /** The cell itself for side 0, its neighbors for sides 1 to 4; what is not there is no cell. */
    private static int nearCell(int cell, int side) {
        int column = cell % COLUMNS;
        switch (side) {
            case 0: return cell;
            case 1: return cell - COLUMNS;
            case 2: return cell + COLUMNS;
            case 3: return column == 0 ? NONE : cell - 1;
            case 4: return column == COLUMNS - 1 ? NONE : cell + 1;
            default: return NONE;
        }
    }

    /** Adds what a weight gives to each cell; who is ashore stands on no cell and gives nothing. */
    private static void addShares(int[] row, int weight, int place) {
        if (!isCell(place)) {
            return;
        }
        int share = weight / SHARE_DIVISOR;
        int left = weight;
        for (int side = FIRST_NEIGHBOR; side < SIDES; side++) {
            int neighbor = nearCell(place, side);
            if (isCell(neighbor)) {
                row[neighbor] += share;
                left -= share;
            }
        }
        row[place] += left;
    }

    private static void addAllShares(int[] row, int[] weights, int[] places) {
        for (int walker = 0; walker < MOST_WALKERS; walker++) {
            addShares(row, weights[walker], places[walker]);
        }
    }

    private void weighAll() {
        copyRow(now.zeros, readings);
        addAllShares(readings, now.weights, now.places);
    }

    private void expectAll(int[] bookPlaces) {
        copyRow(now.tares, expected);
        addAllShares(expected, now.bookWeights, bookPlaces);
    }

    /** The earliest minute of the tares of a cell and its neighbors. */
    private int earliestTare(int cell) {
        int earliest = now.minute;
        for (int side = 0; side < SIDES; side++) {
            int near = nearCell(cell, side);
            if (isCell(near)) {
                earliest = Math.min(earliest, now.tareMinutes[near]);
            }
        }
        return earliest;
    }

    private int sumOfReadings() {
        weighAll();
        return sumOf(readings);
    }

    // ---- places, in truth or in the book

    private static int whoIsOn(int[] places, int cell) {
        for (int walker = 0; walker < MOST_WALKERS; walker++) {
            if (places[walker] == cell) {
                return walker;
            }
        }
        return NONE;
    }

    private static void exchange(int[] places, int one, int other) {
        int place = places[one];
        places[one] = places[other];
        places[other] = place;
    }

    /** Exchanges the two that bestExchange() told as one number. */
    private void exchangePair(int[] places, int pair) {
        int one = pair / PAIR_FACTOR;
        int other = pair % PAIR_FACTOR;
        if (isPair(one, other)) {
            exchange(places, one, other);
        }
    }

    /** The error that the book would have with these places. */
    private int errorWith(int[] bookPlaces) {
        weighAll();
        expectAll(bookPlaces);
        int error = 0;
        for (int cell = 0; cell < CELLS; cell++) {
            error += Math.abs(readings[cell] - expected[cell]);
        }
        return error;
    }

    /** The exchange by which the error becomes least, as ten times the lower number and the other. */
    private int bestExchange(int[] bookPlaces) {
        int best = NONE;
        int least = errorWith(bookPlaces);
        for (int one = 0; one < MOST_WALKERS; one++) {
            for (int other = one + 1; other < MOST_WALKERS; other++) {
                if (isAboard(one) && isAboard(other)) {
                    exchange(bookPlaces, one, other);
                    int error = errorWith(bookPlaces);
                    exchange(bookPlaces, one, other);
                    if (error < least) {
                        least = error;
                        best = PAIR_FACTOR * one + other;
                    }
                }
            }
        }
        return best;
    }

    private int walkersAboard() {
        int aboard = 0;
        for (int walker = 0; walker < MOST_WALKERS; walker++) {
            if (isAboard(walker)) {
                aboard++;
            }
        }
        return aboard;
    }

    private int walkersMisplaced() {
        int misplaced = 0;
        for (int walker = 0; walker < MOST_WALKERS; walker++) {
            // Who is ashore has no place, neither on the floor nor in the book.
            if (now.places[walker] != now.bookPlaces[walker]) {
                misplaced++;
            }
        }
        return misplaced;
    }

    // ---- estimates and bills

    private int estimateFor(int walker) {
        if (!isAboard(walker)) {
            return 0;
        }
        weighAll();
        expectAll(now.bookPlaces);
        int place = now.bookPlaces[walker];
        // The walker's own shares, all among what is expected of these cells, make up the book's weight.
        int sum = now.bookWeights[walker];
        for (int side = 0; side < SIDES; side++) {
            int near = nearCell(place, side);
            if (isCell(near)) {
                sum += readings[near] - expected[near];
            }
        }
        return Math.max(0, sum);
    }

    private int certaintyFor(int walker) {
        if (!isAboard(walker)) {
            return 0;
        }
        int age = now.minute - earliestTare(now.bookPlaces[walker]);
        int loss = LOSS_FOR_MINUTE * age + LOSS_FOR_ACCUSATION * now.accusations[walker];
        return Math.max(0, PERCENT - loss);
    }

    private int kilogramsToBill(int walker) {
        int kilograms = estimateFor(walker) * certaintyFor(walker) / PERCENT;
        int unbilled = sumOfReadings() - sumOf(now.tares) - kilogramsBilled();
        return Math.max(0, Math.min(kilograms, unbilled));
    }

    private int kilogramsBilled() {
        int kilograms = 0;
        for (int walker = 0; walker < MOST_WALKERS; walker++) {
            kilograms += orZero(now.billKilograms[walker]) - orZero(now.backKilograms[walker]);
        }
        return kilograms;
    }

    private int billAmount(int walker) {
        return isWalker(walker) ? orZero(now.billKilograms[walker]) * now.billPrices[walker] : 0;
    }

    private int backAmount(int walker) {
        return isWalker(walker) ? orZero(now.backKilograms[walker]) * now.billPrices[walker] : 0;
    }

    private int sumOfBillAmounts() {
        int sum = 0;
        for (int walker = 0; walker < MOST_WALKERS; walker++) {
            sum += billAmount(walker);
        }
        return sum;
    }

    private int sumOfBackAmounts() {
        int sum = 0;
        for (int walker = 0; walker < MOST_WALKERS; walker++) {
            sum += backAmount(walker);
        }
        return sum;
    }

    private static int orZero(int kilograms) {
        return kilograms == NONE ? 0 : kilograms;
    }

    // ---- the history

    /** Records the state before an action; when there are five already, in the place of the oldest. */
    private void remember() {
        if (kept == MOST_STATES) {
            oldest = slotAfter(1);
            kept--;
        }
        State slot = history[slotAfter(kept)];
        if (slot != null) {
            slot.copyFrom(now);
        }
        kept++;
    }

    /** The slot of a state that is so many states younger than the oldest. */
    private int slotAfter(int states) {
        return Math.floorMod(oldest + states, MOST_STATES);
    }

    // ---- rows

    private static void copyRow(int[] from, int[] to) {
        System.arraycopy(from, 0, to, 0, Math.min(from.length, to.length));
    }

    private static void fillRow(int[] row, int value) {
        for (int index = 0; index < row.length; index++) {
            row[index] = value;
        }
    }

    private static int sumOf(int[] row) {
        int sum = 0;
        for (int index = 0; index < row.length; index++) {
            sum += row[index];
        }
        return sum;
    }

    /** Everything but the history. */
    private static final class State {
        int minute = 0;
        int price = FIRST_PRICE;
        int walkers = 0;

        final int[] zeros = new int[CELLS];
        final int[] drifts = new int[CELLS];
        final int[] tares = new int[CELLS];
        final int[] tareMinutes = new int[CELLS];

        final int[] weights = new int[MOST_WALKERS];
        // NONE for who is ashore, or has not come yet.
        final int[] places = new int[MOST_WALKERS];
        final int[] bookWeights = new int[MOST_WALKERS];
        final int[] bookPlaces = new int[MOST_WALKERS];
        final int[] accusations = new int[MOST_WALKERS];
        // NONE for who has no bill.
        final int[] billKilograms = new int[MOST_WALKERS];
        final int[] billPrices = new int[MOST_WALKERS];
        // NONE for who has not complained; 0 is a complaint that gave back nothing.
        final int[] backKilograms = new int[MOST_WALKERS];

        State() {
            fillRow(places, NONE);
            fillRow(bookPlaces, NONE);
            fillRow(billKilograms, NONE);
            fillRow(backKilograms, NONE);
        }

        void copyFrom(State other) {
            minute = other.minute;
            price = other.price;
            walkers = other.walkers;
            copyRow(other.zeros, zeros);
            copyRow(other.drifts, drifts);
            copyRow(other.tares, tares);
            copyRow(other.tareMinutes, tareMinutes);
            copyRow(other.weights, weights);
            copyRow(other.places, places);
            copyRow(other.bookWeights, bookWeights);
            copyRow(other.bookPlaces, bookPlaces);
            copyRow(other.accusations, accusations);
            copyRow(other.billKilograms, billKilograms);
            copyRow(other.billPrices, billPrices);
            copyRow(other.backKilograms, backKilograms);
        }
    }
}
