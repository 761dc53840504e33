import java.lang.reflect.Constructor;
import java.lang.reflect.Field;
import java.lang.reflect.Member;
import java.lang.reflect.Method;
import java.lang.reflect.Modifier;
import java.util.Arrays;
import java.util.Set;
import java.util.TreeSet;

/** The class has the document's face and no other member that is not private; no call ever throws. */
public final class FaceTest {
    private static final String[] METHODS = {
        "setDrift 2", "pass 1", "tare 1", "board 3", "walk 2", "swap 2", "leave 1", "setPrice 1", "accuse 2",
        "bill 1", "complain 1", "undo 0", "count 1", "cell 2", "walker 2", "estimate 1", "certainty 1", "guess 1",
        "mend 1", "bestCell 0", "until 2"};
    private static final String[] CONSTANTS = {
        "INVALID_ARGUMENT -100001", "ILLEGAL_STATE -100002", "CAPACITY_EXCEEDED -100003", "NONE -100009"};
    private static final int[] WILD = {
        Integer.MIN_VALUE, Integer.MIN_VALUE + 1, -100009, -24, -1, 0, 1, 7, 8, 23, 24, 60, 150, Integer.MAX_VALUE};

    private static int wrong = 0;

    private static void due(String what, Object got, Object want) {
        if (!got.equals(want)) {
            wrong++;
            System.out.println(what + ": " + got + ", due is " + want);
        }
    }

    public static void main(String[] args) throws ReflectiveOperationException {
        face();
        noCallThrows();
        manyCalls();
        System.out.println(wrong == 0 ? "all answers are as due" : wrong + " answers are not as due");
        if (wrong != 0) {
            System.exit(1);
        }
    }

    private static void face() throws ReflectiveOperationException {
        due("the class is public and final",
                Modifier.isPublic(FerryFloor.class.getModifiers()) && Modifier.isFinal(FerryFloor.class.getModifiers()),
                true);
        Set<String> methods = new TreeSet<>();
        Set<String> privates = new TreeSet<>();
        for (Method method : FerryFloor.class.getDeclaredMethods()) {
            if (Modifier.isPrivate(method.getModifiers())) {
                privates.add(method.getName());
            } else {
                methods.add(method.getName() + " " + method.getParameterCount());
                due(method.getName() + " is public and returns int, of int alone", isOfInts(method), true);
            }
        }
        due("methods", methods, new TreeSet<>(Arrays.asList(METHODS)));
        for (String method : METHODS) {
            String name = method.substring(0, method.indexOf(' '));
            due("a private method is named " + name, privates.contains(name), false);
        }
        Set<String> constants = new TreeSet<>();
        for (Field field : FerryFloor.class.getDeclaredFields()) {
            if (!Modifier.isPrivate(field.getModifiers())) {
                due(field.getName() + " is a constant", isConstant(field), true);
                constants.add(field.getName() + " " + field.get(null));
            } else if (Modifier.isStatic(field.getModifiers())) {
                due(field.getName() + " is final", Modifier.isFinal(field.getModifiers()), true);
            }
        }
        due("constants", constants, new TreeSet<>(Arrays.asList(CONSTANTS)));
        Constructor<?>[] constructors = FerryFloor.class.getDeclaredConstructors();
        due("constructors", constructors.length, 1);
        due("the constructor is public", Modifier.isPublic(constructors[0].getModifiers()), true);
        due("the constructor's parameters", constructors[0].getParameterCount(), 0);
    }

    private static boolean isOfInts(Method method) {
        boolean ints = Modifier.isPublic(method.getModifiers()) && !Modifier.isStatic(method.getModifiers())
                && method.getReturnType() == int.class && method.getExceptionTypes().length == 0;
        for (Class<?> type : method.getParameterTypes()) {
            ints = ints && type == int.class;
        }
        return ints;
    }

    private static boolean isConstant(Member field) {
        int modifiers = field.getModifiers();
        return Modifier.isPublic(modifiers) && Modifier.isStatic(modifiers) && Modifier.isFinal(modifiers);
    }

    /** Every method with every combination of wild arguments, on an empty and on a full floor. */
    private static void noCallThrows() throws ReflectiveOperationException {
        for (int walkers = 0; walkers <= 8; walkers += 4) {
            for (Method method : FerryFloor.class.getDeclaredMethods()) {
                if (Modifier.isPublic(method.getModifiers())) {
                    tryAll(method, walkers);
                }
            }
        }
    }

    private static void tryAll(Method method, int walkers) throws ReflectiveOperationException {
        int parameters = method.getParameterCount();
        int combinations = (int) Math.pow(WILD.length, parameters);
        for (int combination = 0; combination < combinations; combination++) {
            FerryFloor x = new FerryFloor();
            for (int walker = 0; walker < walkers; walker++) {
                x.board(20 + walker, 150 - walker, 3 * walker);
            }
            x.leave(2);
            Object[] arguments = new Object[parameters];
            int rest = combination;
            for (int index = 0; index < parameters; index++) {
                arguments[index] = WILD[rest % WILD.length];
                rest /= WILD.length;
            }
            try {
                method.invoke(x, arguments);
            } catch (java.lang.reflect.InvocationTargetException e) {
                wrong++;
                System.out.println(method.getName() + Arrays.toString(arguments) + " threw " + e.getCause());
            }
        }
    }

    /** Far more calls than are promised: what they answer is free, but none may throw. */
    private static void manyCalls() {
        FerryFloor x = new FerryFloor();
        for (int walker = 0; walker < 8; walker++) {
            x.board(150, 20, walker);
        }
        for (int cell = 0; cell < 24; cell++) {
            x.setDrift(cell, 3);
        }
        for (int call = 0; call < 20000; call++) {
            x.accuse(call % 8, (call + 1) % 8);
            x.swap(call % 7, 7);
            x.walk(call % 8, call % 24);
            x.pass(1);
            x.bill(call % 8);
            x.tare(call % 24);
            x.certainty(call % 8);
            x.until(call % 8, 1);
        }
        x.mend(0);
        x.undo();
    }
}
