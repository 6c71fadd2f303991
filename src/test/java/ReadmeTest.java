import java.lang.reflect.Field;
import java.lang.reflect.Method;
import java.lang.reflect.Modifier;
import java.nio.file.Files;
import java.nio.file.Path;
import java.util.HashSet;
import java.util.Set;
import java.util.regex.Matcher;
import java.util.regex.Pattern;

/** What README.md tells: its example's calls answer what stands behind them, and it names every call and constant. */
public final class ReadmeTest {
    private static final Pattern LETTERS = Pattern.compile("for \\(char letter : \"([^\"]*)\"");
    private static final Pattern CALL = Pattern.compile("(?m)^x\\.(\\w+)\\(([^)]*)\\); +// (-?\\d+)");
    private static final Pattern CONSTANT = Pattern.compile("(?m)^\\| (-\\d+) \\| `(\\w+)` \\|");

    private static int passed = 0;
    private static int failed = 0;

    private static void due(String what, long got, long want) {
        if (got == want) {
            passed++;
            return;
        }
        failed++;
        System.out.println(what + " is " + got + ", due is " + want);
    }

    public static void main(String[] args) throws Exception {
        String readme = Files.readString(Path.of("README.md"));
        checkExample(readme);
        checkConstants(readme);
        for (Method one : DarkShadows.class.getDeclaredMethods()) {
            if (Modifier.isPublic(one.getModifiers())) {
                due("README.md names " + one.getName(), readme.contains("`" + one.getName() + "`") ? 1 : 0, 1);
            }
        }
        System.out.println(passed + " passed, " + failed + " failed");
        if (failed != 0) {
            System.exit(1);
        }
    }

    private static void checkExample(String readme) throws Exception {
        DarkShadows x = new DarkShadows();
        Matcher letters = LETTERS.matcher(readme);
        due("a text in the example", letters.find() ? 1 : 0, 1);
        for (char letter : letters.group(1).toCharArray()) {
            x.type(letter);
        }
        int calls = 0;
        Matcher call = CALL.matcher(readme);
        while (call.find()) {
            due(call.group(), answer(x, call.group(1), call.group(2)), Long.parseLong(call.group(3)));
            calls++;
        }
        due("calls in the example", calls, readme.lines().filter(line -> line.startsWith("x.")).count());
    }

    private static long answer(DarkShadows x, String name, String numbers) throws Exception {
        String[] told = numbers.isEmpty() ? new String[0] : numbers.split(", ");
        for (Method one : DarkShadows.class.getDeclaredMethods()) {
            if (one.getName().equals(name)) {
                Object[] values = new Object[told.length];
                for (int i = 0; i < told.length; i++) {
                    if (one.getParameterTypes()[i] == long.class) {
                        values[i] = Long.parseLong(told[i]);
                    } else {
                        values[i] = Integer.parseInt(told[i]);
                    }
                }
                return (Integer) one.invoke(x, values);
            }
        }
        throw new IllegalStateException("no call " + name);
    }

    private static void checkConstants(String readme) throws Exception {
        Set<String> names = new HashSet<>();
        Matcher row = CONSTANT.matcher(readme);
        while (row.find()) {
            names.add(row.group(2));
            due(row.group(2), DarkShadows.class.getField(row.group(2)).getInt(null), Long.parseLong(row.group(1)));
        }
        for (Field one : DarkShadows.class.getFields()) {
            due("README.md tells " + one.getName(), names.contains(one.getName()) ? 1 : 0, 1);
        }
    }
}
