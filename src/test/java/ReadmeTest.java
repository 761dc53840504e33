import java.io.IOException;
import java.lang.reflect.Method;
import java.lang.reflect.Modifier;
import java.nio.file.Files;
import java.nio.file.Path;
import java.util.Arrays;
import java.util.List;
import java.util.regex.Matcher;
import java.util.regex.Pattern;

/** What README.md tells a user: its example answers what stands beside each call, and its table has every call. */
public final class ReadmeTest {
    private static final Path README = Path.of("README.md");
    // floor.name(1, 2);   // the answer: why
    private static final Pattern EXAMPLE = Pattern.compile("floor\\.(\\w+)\\(([-0-9, ]*)\\);\\s*// (\\w+|-\\d+)(:.*)?");
    private static final Pattern ROW = Pattern.compile("\\| `(\\w+)\\(([a-z, ]*)\\)` \\|.*");

    private static int wrong = 0;

    public static void main(String[] args) throws ReflectiveOperationException, IOException {
        List<String> lines = Files.readAllLines(README);
        example(lines);
        table(lines);
        System.out.println(wrong == 0 ? "all answers are as due" : wrong + " answers are not as due");
        if (wrong != 0) {
            System.exit(1);
        }
    }

    private static void fail(String why) {
        wrong++;
        System.out.println(why);
    }

    private static void example(List<String> lines) throws ReflectiveOperationException {
        FerryFloor floor = new FerryFloor();
        int calls = 0;
        for (String line : lines) {
            Matcher matcher = EXAMPLE.matcher(line);
            if (matcher.matches()) {
                calls++;
                int got = call(floor, matcher.group(1), matcher.group(2));
                int want = answer(matcher.group(3));
                if (got != want) {
                    fail("it answers " + got + ": " + line);
                }
            } else if (line.startsWith("floor.")) {
                fail("no call with an answer: " + line);
            }
        }
        if (calls == 0) {
            fail("README.md has no example");
        }
    }

    private static int call(FerryFloor floor, String name, String arguments) throws ReflectiveOperationException {
        Object[] values = Arrays.stream(arguments.split(", ")).filter(each -> !each.isEmpty())
                .map(Integer::valueOf).toArray();
        Class<?>[] types = new Class<?>[values.length];
        Arrays.fill(types, int.class);
        return (int) FerryFloor.class.getMethod(name, types).invoke(floor, values);
    }

    private static int answer(String told) throws ReflectiveOperationException {
        boolean constant = Character.isUpperCase(told.charAt(0));
        return constant ? FerryFloor.class.getField(told).getInt(null) : Integer.parseInt(told);
    }

    private static void table(List<String> lines) {
        for (Method method : FerryFloor.class.getDeclaredMethods()) {
            if (Modifier.isPublic(method.getModifiers()) && rowsOf(method, lines) != 1) {
                fail("README.md's table has not one row of " + method.getName() + " with its arguments");
            }
        }
    }

    private static int rowsOf(Method method, List<String> lines) {
        int rows = 0;
        for (String line : lines) {
            Matcher matcher = ROW.matcher(line);
            if (matcher.matches() && matcher.group(1).equals(method.getName())) {
                String arguments = matcher.group(2);
                int told = arguments.isEmpty() ? 0 : arguments.split(", ").length;
                rows += told == method.getParameterCount() ? 1 : 0;
            }
        }
        return rows;
    }
}
