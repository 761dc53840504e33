import java.util.ArrayDeque;
import java.util.ArrayList;
import java.util.Deque;
import java.util.List;

/**
 * Long runs of calls, always the same ones, on the class and on a slow model of the document that is
 * written in another way: each answer of the class must be the model's.
 */
public final class ModelTest {
    private static final int RUNS = 3000;
    private static final int LEAST_TRIES = 200;
    // Nothing is promised of more calls: a run ends with a look at everything, or goes on to the last call.
    private static final int MOST_CALLS = 512;
    private static final int CALLS_OF_A_LOOK = 300;
    private static final int[] WILD = {Integer.MIN_VALUE, -100009, -7, -1, 8, 9, 24, 61, 101, 151, Integer.MAX_VALUE};

    private static long seed = 20261119L;
    private static int wrong = 0;
    // How often each of the 22 kinds of call was answered without an error, and with one.
    private static final int[] fine = new int[23];
    private static final int[] refused = new int[23];

    public static void main(String[] args) {
        for (int run = 0; run < RUNS && wrong < 20; run++) {
            oneRun(run);
        }
        for (int promise = 2; promise <= 22; promise++) {
            if (fine[promise] < LEAST_TRIES || refused[promise] < LEAST_TRIES && promise != 21) {
                wrong++;
                System.out.println("the runs try promise " + promise + " too little: " + fine[promise]
                        + " fine, " + refused[promise] + " refused");
            }
        }
        System.out.println(wrong == 0 ? "all answers are as due" : wrong + " answers are not as due");
        if (wrong != 0) {
            System.exit(1);
        }
    }

    private static int random(int bound) {
        seed = seed * 6364136223846793005L + 1442695040888963407L;
        return (int) Math.floorMod(seed >>> 33, (long) bound);
    }

    private static int between(int least, int most) {
        return random(40) == 0 ? WILD[random(WILD.length)] : least + random(most - least + 1);
    }

    private static void oneRun(int run) {
        FerryFloor x = new FerryFloor();
        Model m = new Model();
        StringBuilder calls = new StringBuilder();
        // Some runs walk slowly and some fast, so that certainties, drifts and the last minute all come up.
        int longest = new int[] {1, 3, 10, 60}[run % 4];
        boolean toTheLast = run % 10 == 9;
        int most = toTheLast ? MOST_CALLS : 1 + random(MOST_CALLS - CALLS_OF_A_LOOK);
        for (int call = 0; call < most && wrong < 20; call++) {
            int kind = chooseKind(run);
            int a = 0;
            int b = 0;
            int c = 0;
            switch (kind) {
                case 2: a = between(0, 23); b = between(-3, 3); break;
                case 3: a = between(1, longest); break;
                case 4: a = between(0, 23); break;
                case 5: a = between(20, 150); b = random(3) == 0 ? between(20, 150) : a; c = between(0, 23); break;
                case 6: a = between(0, 7); b = between(0, 23); break;
                case 7: case 10: a = between(0, 7); b = between(0, 7); break;
                case 9: a = between(0, 100); break;
                case 14: a = between(0, 11); break;
                case 15: a = between(0, 23); b = between(0, 7); break;
                case 16: a = between(0, 7); b = between(0, 7); break;
                case 19: case 20: a = between(0, 1); break;
                case 22: a = between(0, 7); b = between(1, 100); break;
                default: a = between(0, 7); break;
            }
            int got = ofClass(x, kind, a, b, c);
            int want = m.answer(kind, a, b, c);
            int[] counted = isError(want) ? refused : fine;
            counted[kind]++;
            calls.append("promise ").append(kind).append('(').append(a).append(", ").append(b).append(", ").append(c)
                    .append(") ").append(want).append('\n');
            compare(run, calls, "the call", got, want);
        }
        if (!toTheLast) {
            lookAtAll(run, calls, x, m);
        }
    }

    private static boolean isError(int answer) {
        return answer == FerryFloor.INVALID_ARGUMENT || answer == FerryFloor.ILLEGAL_STATE
                || answer == FerryFloor.CAPACITY_EXCEEDED;
    }

    private static int chooseKind(int run) {
        int kind = 2 + random(21);
        // Who is ashore never comes back: in two of three runs most stay aboard, and less is undone.
        if ((kind == 8 || kind == 13) && random(4) != 0 && run % 3 != 0) {
            kind = 5 + random(3);
        }
        return kind;
    }

    private static void compare(int run, StringBuilder calls, String what, int got, int want) {
        if (got != want && wrong < 20) {
            wrong++;
            System.out.println("run " + run + ": " + what + " answered " + got + ", due is " + want);
            if (wrong == 1) {
                System.out.print(calls);
            }
        }
    }

    private static void lookAtAll(int run, StringBuilder calls, FerryFloor x, Model m) {
        for (int what = 0; what <= 11; what++) {
            compare(run, calls, "count(" + what + ")", x.count(what), m.count(what));
        }
        for (int cell = 0; cell < 24; cell++) {
            for (int what = 0; what <= 7; what++) {
                compare(run, calls, "cell(" + cell + ", " + what + ")", x.cell(cell, what), m.cell(cell, what));
            }
        }
        for (int walker = 0; walker < 8; walker++) {
            for (int what = 0; what <= 7; what++) {
                compare(run, calls, "walker(" + walker + ", " + what + ")", x.walker(walker, what),
                        m.walker(walker, what));
            }
            compare(run, calls, "estimate(" + walker + ")", x.estimate(walker), m.estimate(walker));
            compare(run, calls, "certainty(" + walker + ")", x.certainty(walker), m.certainty(walker));
        }
        compare(run, calls, "guess(0)", x.guess(0), m.guess(0));
        compare(run, calls, "guess(1)", x.guess(1), m.guess(1));
        compare(run, calls, "bestCell()", x.bestCell(), m.bestCell());
    }

    private static int ofClass(FerryFloor x, int kind, int a, int b, int c) {
        switch (kind) {
            case 2: return x.setDrift(a, b);
            case 3: return x.pass(a);
            case 4: return x.tare(a);
            case 5: return x.board(a, b, c);
            case 6: return x.walk(a, b);
            case 7: return x.swap(a, b);
            case 8: return x.leave(a);
            case 9: return x.setPrice(a);
            case 10: return x.accuse(a, b);
            case 11: return x.bill(a);
            case 12: return x.complain(a);
            case 13: return x.undo();
            case 14: return x.count(a);
            case 15: return x.cell(a, b);
            case 16: return x.walker(a, b);
            case 17: return x.estimate(a);
            case 18: return x.certainty(a);
            case 19: return x.guess(a);
            case 20: return x.mend(a);
            case 21: return x.bestCell();
            default: return x.until(a, b);
        }
    }

    private static final class Person {
        int weight;
        int place;
        int bookWeight;
        int bookPlace;
        int accused = 0;
        boolean aboard = true;
        boolean hasBill = false;
        int billed = 0;
        int price = 0;
        boolean complained = false;
        int back = 0;

        Person copy() {
            Person p = new Person();
            p.weight = weight;
            p.place = place;
            p.bookWeight = bookWeight;
            p.bookPlace = bookPlace;
            p.accused = accused;
            p.aboard = aboard;
            p.hasBill = hasBill;
            p.billed = billed;
            p.price = price;
            p.complained = complained;
            p.back = back;
            return p;
        }
    }

    private static final class World {
        int minute = 0;
        int price = 10;
        int[] zero = new int[24];
        int[] drift = new int[24];
        int[] tare = new int[24];
        int[] tareMinute = new int[24];
        List<Person> people = new ArrayList<>();

        World copy() {
            World w = new World();
            w.minute = minute;
            w.price = price;
            w.zero = zero.clone();
            w.drift = drift.clone();
            w.tare = tare.clone();
            w.tareMinute = tareMinute.clone();
            for (Person p : people) {
                w.people.add(p.copy());
            }
            return w;
        }
    }

    private static final class Model {
        private static final int BAD = -100001;
        private static final int STATE = -100002;
        private static final int ROOM = -100003;
        private static final int NONE = -100009;

        World w = new World();
        Deque<World> past = new ArrayDeque<>();

        int answer(int kind, int a, int b, int c) {
            if (kind >= 2 && kind <= 12) {
                World before = w.copy();
                int answer = act(kind, a, b, c);
                boolean error = answer == BAD || answer == STATE || answer == ROOM;
                if (error) {
                    w = before;
                } else {
                    past.addLast(before);
                    if (past.size() > 5) {
                        past.removeFirst();
                    }
                }
                return answer;
            }
            switch (kind) {
                case 13:
                    if (past.isEmpty()) {
                        return STATE;
                    }
                    w = past.removeLast();
                    return past.size();
                case 14: return count(a);
                case 15: return cell(a, b);
                case 16: return walker(a, b);
                case 17: return estimate(a);
                case 18: return certainty(a);
                case 19: return guess(a);
                case 20: return mend(a);
                case 21: return bestCell();
                default: return until(a, b);
            }
        }

        private int act(int kind, int a, int b, int c) {
            switch (kind) {
                case 2: return setDrift(a, b);
                case 3: return pass(a);
                case 4: return tare(a);
                case 5: return board(a, b, c);
                case 6: return walk(a, b);
                case 7: return swap(a, b);
                case 8: return leave(a);
                case 9: return setPrice(a);
                case 10: return accuse(a, b);
                case 11: return bill(a);
                default: return complain(a);
            }
        }

        private boolean out(int value, int least, int most) {
            return value < least || value > most;
        }

        private Person person(int number) {
            return number >= 0 && number < w.people.size() ? w.people.get(number) : null;
        }

        private List<Person> aboard() {
            List<Person> aboard = new ArrayList<>();
            for (Person p : w.people) {
                if (p.aboard) {
                    aboard.add(p);
                }
            }
            return aboard;
        }

        private boolean neighbors(int one, int other) {
            return Math.abs(one / 6 - other / 6) + Math.abs(one % 6 - other % 6) == 1;
        }

        private int share(int weight, int from, int to) {
            if (neighbors(from, to)) {
                return weight / 8;
            }
            if (from != to) {
                return 0;
            }
            int given = 0;
            for (int cell = 0; cell < 24; cell++) {
                given += neighbors(from, cell) ? weight / 8 : 0;
            }
            return weight - given;
        }

        private int reading(int cell) {
            int sum = w.zero[cell];
            for (Person p : aboard()) {
                sum += share(p.weight, p.place, cell);
            }
            return sum;
        }

        private int expected(int cell) {
            int sum = w.tare[cell];
            for (Person p : aboard()) {
                sum += share(p.bookWeight, p.bookPlace, cell);
            }
            return sum;
        }

        private int error() {
            int sum = 0;
            for (int cell = 0; cell < 24; cell++) {
                sum += Math.abs(reading(cell) - expected(cell));
            }
            return sum;
        }

        private Person standsOn(int cell) {
            for (Person p : aboard()) {
                if (p.place == cell) {
                    return p;
                }
            }
            return null;
        }

        private Person bookedOn(int cell) {
            for (Person p : aboard()) {
                if (p.bookPlace == cell) {
                    return p;
                }
            }
            return null;
        }

        private int numberOf(Person p) {
            return p == null ? NONE : w.people.indexOf(p);
        }

        private int setDrift(int cell, int drift) {
            if (out(cell, 0, 23) || out(drift, -3, 3)) {
                return BAD;
            }
            int previous = w.drift[cell];
            w.drift[cell] = drift;
            return previous;
        }

        private int pass(int minutes) {
            if (out(minutes, 1, 60)) {
                return BAD;
            }
            if (w.minute + minutes > 2000) {
                return STATE;
            }
            for (int passed = 0; passed < minutes; passed++) {
                w.minute++;
                for (int cell = 0; cell < 24; cell++) {
                    w.zero[cell] += w.drift[cell];
                }
            }
            return w.minute;
        }

        private int tare(int cell) {
            if (out(cell, 0, 23)) {
                return BAD;
            }
            for (Person p : aboard()) {
                if (share(p.weight, p.place, cell) > 0) {
                    return STATE;
                }
            }
            w.tare[cell] = reading(cell);
            w.tareMinute[cell] = w.minute;
            return w.tare[cell];
        }

        private int board(int weight, int told, int cell) {
            if (out(weight, 20, 150) || out(told, 20, 150) || out(cell, 0, 23)) {
                return BAD;
            }
            if (standsOn(cell) != null) {
                return STATE;
            }
            if (w.people.size() == 8) {
                return ROOM;
            }
            Person p = new Person();
            p.weight = weight;
            p.bookWeight = told;
            p.place = cell;
            p.bookPlace = cell;
            w.people.add(p);
            return w.people.size() - 1;
        }

        private int walk(int walker, int cell) {
            Person p = person(walker);
            if (p == null || out(cell, 0, 23)) {
                return BAD;
            }
            if (!p.aboard || standsOn(cell) != null) {
                return STATE;
            }
            Person seen = bookedOn(p.place);
            seen.bookPlace = cell;
            p.place = cell;
            return numberOf(seen);
        }

        private int swap(int one, int other) {
            Person p = person(one);
            Person q = person(other);
            if (p == null || q == null || p == q) {
                return BAD;
            }
            if (!p.aboard || !q.aboard) {
                return STATE;
            }
            int place = p.place;
            p.place = q.place;
            q.place = place;
            return error();
        }

        private int leave(int walker) {
            Person p = person(walker);
            if (p == null) {
                return BAD;
            }
            if (!p.aboard) {
                return STATE;
            }
            boolean right = p.place == p.bookPlace;
            if (!right) {
                bookedOn(p.place).bookPlace = p.bookPlace;
            }
            p.aboard = false;
            return right ? 1 : 0;
        }

        private int setPrice(int price) {
            if (out(price, 0, 100)) {
                return BAD;
            }
            int previous = w.price;
            w.price = price;
            return previous;
        }

        private int accuse(int one, int other) {
            Person p = person(one);
            Person q = person(other);
            if (p == null || q == null || p == q) {
                return BAD;
            }
            if (!p.aboard || !q.aboard) {
                return STATE;
            }
            p.accused++;
            q.accused++;
            return exchanged(p, q);
        }

        private int exchanged(Person p, Person q) {
            int place = p.bookPlace;
            p.bookPlace = q.bookPlace;
            q.bookPlace = place;
            return error();
        }

        private int bill(int walker) {
            Person p = person(walker);
            if (p == null) {
                return BAD;
            }
            if (!p.aboard || p.hasBill) {
                return STATE;
            }
            int kilograms = estimate(walker) * certainty(walker) / 100;
            int tooMuch = count(9) + kilograms - (count(5) - count(6));
            if (tooMuch > 0) {
                kilograms -= tooMuch;
            }
            if (kilograms < 0) {
                kilograms = 0;
            }
            p.hasBill = true;
            p.billed = kilograms;
            p.price = w.price;
            if (kilograms >= 20) {
                p.bookWeight = kilograms;
            }
            return kilograms;
        }

        private int complain(int walker) {
            Person p = person(walker);
            if (p == null) {
                return BAD;
            }
            if (p.aboard || !p.hasBill || p.complained) {
                return STATE;
            }
            p.complained = true;
            p.back = p.billed > p.weight ? p.billed - p.weight : 0;
            return p.back * p.price;
        }

        int count(int what) {
            int sum = 0;
            switch (what) {
                case 0: return w.minute;
                case 1: return w.people.size();
                case 2: return aboard().size();
                case 3: return past.size();
                case 4: return error();
                case 5:
                    for (int cell = 0; cell < 24; cell++) {
                        sum += reading(cell);
                    }
                    return sum;
                case 6:
                    for (int cell = 0; cell < 24; cell++) {
                        sum += w.tare[cell];
                    }
                    return sum;
                case 7:
                    for (Person p : aboard()) {
                        sum += p.place == p.bookPlace ? 0 : 1;
                    }
                    return sum;
                case 8: return w.price;
                case 9:
                    for (Person p : w.people) {
                        sum += p.billed - p.back;
                    }
                    return sum;
                case 10:
                    for (Person p : w.people) {
                        sum += p.billed * p.price;
                    }
                    return sum;
                case 11:
                    for (Person p : w.people) {
                        sum += p.back * p.price;
                    }
                    return sum;
                default: return BAD;
            }
        }

        int cell(int cell, int what) {
            if (out(cell, 0, 23) || out(what, 0, 7)) {
                return BAD;
            }
            int[] properties = {reading(cell), w.zero[cell], w.drift[cell], w.tare[cell], w.tareMinute[cell],
                expected(cell), numberOf(standsOn(cell)), numberOf(bookedOn(cell))};
            return properties[what];
        }

        int walker(int walker, int what) {
            Person p = person(walker);
            if (p == null || out(what, 0, 7)) {
                return BAD;
            }
            int[] properties = {p.weight, p.aboard ? p.place : NONE, p.aboard ? p.bookWeight : NONE,
                p.aboard ? p.bookPlace : NONE, p.accused, p.hasBill ? p.billed : NONE, p.billed * p.price,
                p.back * p.price};
            return properties[what];
        }

        int estimate(int walker) {
            Person p = person(walker);
            if (p == null) {
                return BAD;
            }
            if (!p.aboard) {
                return STATE;
            }
            int sum = 0;
            for (int cell = 0; cell < 24; cell++) {
                if (share(p.bookWeight, p.bookPlace, cell) > 0) {
                    sum += reading(cell) - w.tare[cell];
                    for (Person other : aboard()) {
                        if (other != p) {
                            sum -= share(other.bookWeight, other.bookPlace, cell);
                        }
                    }
                }
            }
            return sum < 0 ? 0 : sum;
        }

        private int certaintyAt(Person p, int minute) {
            int percent = 100 - 10 * p.accused - 5 * (minute - earliestTare(p.bookPlace));
            return percent < 0 ? 0 : percent;
        }

        private int earliestTare(int place) {
            int earliest = 2000;
            for (int cell = 0; cell < 24; cell++) {
                if (cell == place || neighbors(cell, place)) {
                    earliest = Math.min(earliest, w.tareMinute[cell]);
                }
            }
            return earliest;
        }

        int certainty(int walker) {
            Person p = person(walker);
            if (p == null) {
                return BAD;
            }
            return p.aboard ? certaintyAt(p, w.minute) : STATE;
        }

        int until(int walker, int bound) {
            Person p = person(walker);
            if (p == null || out(bound, 1, 100)) {
                return BAD;
            }
            if (!p.aboard) {
                return STATE;
            }
            int minutes = 0;
            while (certaintyAt(p, w.minute + minutes) >= bound) {
                minutes++;
            }
            return minutes;
        }

        /** The errors of all exchanges in order; the two and the error of the first least one, or null. */
        private int[] guessed() {
            int[] best = {-1, -1, error()};
            for (int one = 0; one < w.people.size(); one++) {
                for (int other = one + 1; other < w.people.size(); other++) {
                    Person p = w.people.get(one);
                    Person q = w.people.get(other);
                    if (p.aboard && q.aboard) {
                        int error = exchanged(p, q);
                        exchanged(p, q);
                        if (error < best[2]) {
                            best = new int[] {one, other, error};
                        }
                    }
                }
            }
            return best[0] < 0 ? null : best;
        }

        int guess(int what) {
            if (out(what, 0, 1)) {
                return BAD;
            }
            int[] best = guessed();
            if (best == null) {
                return NONE;
            }
            return what == 0 ? 10 * best[0] + best[1] : best[2];
        }

        int mend(int what) {
            if (out(what, 0, 1)) {
                return BAD;
            }
            World before = w;
            w = w.copy();
            int exchanges = 0;
            for (int[] best = guessed(); best != null; best = guessed()) {
                exchanged(w.people.get(best[0]), w.people.get(best[1]));
                exchanges++;
            }
            int error = error();
            w = before;
            return what == 0 ? exchanges : error;
        }

        int bestCell() {
            int best = -1;
            for (int cell = 23; cell >= 0; cell--) {
                if (standsOn(cell) == null && (best < 0 || earliestTare(cell) >= earliestTare(best))) {
                    best = cell;
                }
            }
            return best;
        }
    }
}
