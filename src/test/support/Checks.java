import java.lang.reflect.InvocationTargetException;
import java.lang.reflect.Method;
import java.util.ArrayList;
import java.util.Comparator;
import java.util.List;

/** What the tests of the document's sentences share; they extend it for its names alone. */
abstract class Checks {
    static final int INVALID = FerryFloor.INVALID_ARGUMENT;
    static final int ILLEGAL = FerryFloor.ILLEGAL_STATE;
    static final int NO_ROOM = FerryFloor.CAPACITY_EXCEEDED;
    static final int NONE = FerryFloor.NONE;
    static final int LOWEST = Integer.MIN_VALUE;
    static final int HIGHEST = Integer.MAX_VALUE;
    static final int MOST_STATES = 5;

    /** Calls that bring a new object to where a test begins. */
    interface Calls {
        void on(Ferry x);
    }

    /** One call, for its answer. */
    interface Call {
        int on(Ferry x);
    }

    static final Calls EMPTY_FLOOR = x -> { };

    /** Eight walkers, on the cells 0 to 7, who tell what they weigh. */
    static final Calls FULL_FLOOR = x -> {
        for (int walker = 0; walker < 8; walker++) {
            x.board(20 + 18 * walker, 20 + 18 * walker, walker);
        }
    };

    static final Calls LAST_MINUTE = x -> passTo(x, 2000);

    private static String test = "";
    private static int wrong = 0;

    /** The tests of a class: what has a sentence, by the number of its promise. */
    static List<Method> testsOf(Class<?> tests) {
        List<Method> methods = new ArrayList<>();
        for (Method method : tests.getDeclaredMethods()) {
            if (method.isAnnotationPresent(Sentence.class)) {
                methods.add(method);
            }
        }
        methods.sort(Comparator.comparingInt(Checks::promiseOf).thenComparing(Method::getName));
        return methods;
    }

    /** The number in the test's name; 0 for the terms ahead of the promises. */
    static int promiseOf(Method method) {
        String name = method.getName().substring(0, method.getName().indexOf('_'));
        return name.equals("terms") ? 0 : Integer.parseInt(name.substring("promise".length()));
    }

    static void runAll(Class<?> tests) {
        List<Method> methods = testsOf(tests);
        for (Method method : methods) {
            test = method.getName() + " (\"" + method.getAnnotation(Sentence.class).value() + "\")";
            try {
                method.setAccessible(true);
                method.invoke(null);
            } catch (InvocationTargetException e) {
                fail("threw " + e.getCause() + " after: " + Ferry.latestRun());
            } catch (IllegalAccessException e) {
                fail("can't be run: " + e);
            }
        }
        finish(methods.size());
    }

    static void finish(int tests) {
        System.out.println(tests + " tests: " + (wrong == 0 ? "all as due" : wrong + " not as due"));
        if (wrong != 0 || tests == 0) {
            System.exit(1);
        }
    }

    static void fail(String why) {
        wrong++;
        System.out.println(test.isEmpty() ? why : test + ": " + why);
    }

    /** The answer of the call that was made last. */
    static void due(int got, int want) {
        if (got != want) {
            fail("due is " + want + " for the last of: " + Ferry.latestRun());
        }
    }

    static void dueSame(List<String> got, List<String> want) {
        for (int index = 0; index < want.size(); index++) {
            if (!got.get(index).equals(want.get(index))) {
                fail(got.get(index) + ", due is " + want.get(index) + " after: " + Ferry.latestRun());
                return;
            }
        }
    }

    static Ferry after(Calls before) {
        Ferry x = new Ferry();
        before.on(x);
        return x;
    }

    /** From the minute 0 to this one. */
    static void passTo(Ferry x, int minute) {
        int now = 0;
        while (now < minute) {
            int minutes = Math.min(60, minute - now);
            now += minutes;
            due(x.pass(minutes), now);
        }
    }

    /** So many actions more: five of them fill the history. */
    private static Calls withPrices(Calls before, int prices) {
        return x -> {
            before.on(x);
            for (int price = 1; price <= prices; price++) {
                x.setPrice(price);
            }
        };
    }

    /**
     * A call that is refused, or only looks: it gives this answer, and behind it everything is as on an object
     * on which it was not made, in the present state and in each state of the history; once with what is kept
     * anyway and once with as much kept as can be.
     */
    static void leavesAll(Calls before, Call call, int answer) {
        leavesAllKept(before, call, answer);
        leavesAllKept(withPrices(before, MOST_STATES), call, answer);
    }

    /** The same with what is kept anyway alone: for calls that answer otherwise with more. */
    static void leavesAllKept(Calls before, Call call, int answer) {
        int kept = after(before).count(3);
        for (int undone = 0; undone <= kept; undone++) {
            Ferry untouched = after(before);
            undoSome(untouched, kept, undone);
            List<String> want = untouched.look();
            Ferry x = after(before);
            due(call.on(x), answer);
            due(x.count(3), kept);
            undoSome(x, kept, undone);
            dueSame(x.look(), want);
            if (undone == kept) {
                due(x.undo(), ILLEGAL);
            }
        }
    }

    private static void undoSome(Ferry x, int kept, int times) {
        for (int time = 1; time <= times; time++) {
            due(x.undo(), kept - time);
        }
    }

    /**
     * A call that is an action: it gives this answer and records the state before it, which undo() restores;
     * when five states are kept already, the oldest one is dropped.
     */
    static void recorded(Calls before, Call call, int answer) {
        int kept = Math.min(MOST_STATES, after(before).count(3) + 1);
        List<String> want = after(before).look();
        Ferry x = after(before);
        due(call.on(x), answer);
        due(x.count(3), kept);
        undoSome(x, kept, 1);
        dueSame(x.look(), want);
        recordedAsSixth(before, call);
    }

    private static void recordedAsSixth(Calls before, Call call) {
        for (int undone = 1; undone <= MOST_STATES; undone++) {
            List<String> want = after(withPrices(before, MOST_STATES + 1 - undone)).look();
            Ferry x = after(withPrices(before, MOST_STATES));
            call.on(x);
            due(x.count(3), MOST_STATES);
            undoSome(x, MOST_STATES, undone);
            dueSame(x.look(), want);
            if (undone == MOST_STATES) {
                due(x.undo(), ILLEGAL);
            }
        }
    }
}
