import java.util.ArrayList;
import java.util.List;

/** A FerryFloor that remembers the calls made of it, so that a wrong answer can be told with its whole run. */
final class Ferry {
    /** Nothing is promised about an object after so many calls, so that no test may need more. */
    static final int MOST_CALLS = 512;
    private static final int MOST_TOLD = 60;

    private static Ferry latest = null;

    private final FerryFloor floor = new FerryFloor();
    private final List<String> run = new ArrayList<>();
    private int calls = 0;

    /** The calls of the object that was called last, each with its answer; of many the last ones. */
    static String latestRun() {
        if (latest == null) {
            return "no call";
        }
        int left = Math.max(0, latest.run.size() - MOST_TOLD);
        String gap = left == 0 ? "" : ".. " + left + " calls more ..; ";
        return gap + String.join("; ", latest.run.subList(left, latest.run.size()));
    }

    int calls() {
        return calls;
    }

    private int told(String call, int answer) {
        counted(1);
        run.add(call + " = " + answer);
        return answer;
    }

    private void counted(int more) {
        latest = this;
        calls += more;
        if (calls > MOST_CALLS) {
            throw new IllegalStateException("a test makes more than " + MOST_CALLS + " calls of one object");
        }
    }

    int setDrift(int cell, int drift) {
        return told("setDrift(" + cell + ", " + drift + ")", floor.setDrift(cell, drift));
    }

    int pass(int minutes) {
        return told("pass(" + minutes + ")", floor.pass(minutes));
    }

    int tare(int cell) {
        return told("tare(" + cell + ")", floor.tare(cell));
    }

    int board(int weight, int told, int cell) {
        return told("board(" + weight + ", " + told + ", " + cell + ")", floor.board(weight, told, cell));
    }

    int walk(int walker, int cell) {
        return told("walk(" + walker + ", " + cell + ")", floor.walk(walker, cell));
    }

    int swap(int one, int other) {
        return told("swap(" + one + ", " + other + ")", floor.swap(one, other));
    }

    int leave(int walker) {
        return told("leave(" + walker + ")", floor.leave(walker));
    }

    int setPrice(int price) {
        return told("setPrice(" + price + ")", floor.setPrice(price));
    }

    int accuse(int one, int other) {
        return told("accuse(" + one + ", " + other + ")", floor.accuse(one, other));
    }

    int bill(int walker) {
        return told("bill(" + walker + ")", floor.bill(walker));
    }

    int complain(int walker) {
        return told("complain(" + walker + ")", floor.complain(walker));
    }

    int undo() {
        return told("undo()", floor.undo());
    }

    int count(int what) {
        return told("count(" + what + ")", floor.count(what));
    }

    int cell(int cell, int what) {
        return told("cell(" + cell + ", " + what + ")", floor.cell(cell, what));
    }

    int walker(int walker, int what) {
        return told("walker(" + walker + ", " + what + ")", floor.walker(walker, what));
    }

    int estimate(int walker) {
        return told("estimate(" + walker + ")", floor.estimate(walker));
    }

    int certainty(int walker) {
        return told("certainty(" + walker + ")", floor.certainty(walker));
    }

    int guess(int what) {
        return told("guess(" + what + ")", floor.guess(what));
    }

    int mend(int what) {
        return told("mend(" + what + ")", floor.mend(what));
    }

    int bestCell() {
        return told("bestCell()", floor.bestCell());
    }

    int until(int walker, int bound) {
        return told("until(" + walker + ", " + bound + ")", floor.until(walker, bound));
    }

    /** All that can be looked at, but the number of states in the history: that is asked alone. */
    List<String> look() {
        List<String> seen = new ArrayList<>();
        for (int what = 0; what <= 11; what++) {
            if (what != 3) {
                seen.add("count(" + what + ") = " + floor.count(what));
            }
        }
        for (int cell = 0; cell < 24; cell++) {
            for (int what = 0; what <= 7; what++) {
                seen.add("cell(" + cell + ", " + what + ") = " + floor.cell(cell, what));
            }
        }
        for (int walker = 0; walker < 8; walker++) {
            for (int what = 0; what <= 7; what++) {
                seen.add("walker(" + walker + ", " + what + ") = " + floor.walker(walker, what));
            }
            seen.add("estimate(" + walker + ") = " + floor.estimate(walker));
            seen.add("certainty(" + walker + ") = " + floor.certainty(walker));
        }
        for (int what = 0; what <= 1; what++) {
            seen.add("guess(" + what + ") = " + floor.guess(what));
            seen.add("mend(" + what + ") = " + floor.mend(what));
        }
        seen.add("bestCell() = " + floor.bestCell());
        counted(seen.size());
        return seen;
    }
}
