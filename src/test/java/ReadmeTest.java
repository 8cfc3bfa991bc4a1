import java.io.IOException;
import java.lang.reflect.InvocationTargetException;
import java.lang.reflect.Method;
import java.nio.file.Files;
import java.nio.file.Path;
import java.util.TreeSet;
import java.util.regex.Matcher;
import java.util.regex.Pattern;

/**
 * README.md's example: its calls, one behind another on one object, answer what stands behind them, and README.md
 * names every call of the face. The file is sought in the directory that .ci/run runs in.
 */
public final class ReadmeTest {
    private static final Pattern CALL = Pattern.compile("air\\.(\\w+)\\(([^)]*)\\); *// ([^: ]+).*");
    private static final int FEWEST_CALLS = 20;
    private static int wrong = 0;

    public static void main(String[] args) throws IOException, IllegalAccessException {
        String readme = Files.readString(Path.of("README.md"));
        int asked = runExample(readme);
        namesTheFace(readme);
        if (asked < FEWEST_CALLS) {
            fault("the example has only " + asked + " calls");
        }
        System.out.println(asked + " calls of README.md's example, " + wrong + " wrong");
        if (wrong != 0) {
            System.exit(1);
        }
    }

    private static void fault(String what) {
        wrong++;
        System.out.println("README.md: " + what);
    }

    private static int runExample(String readme) throws IllegalAccessException {
        SharedAir air = new SharedAir();
        int asked = 0;
        for (String line : readme.split("\n")) {
            if (line.startsWith("air.")) {
                Matcher call = CALL.matcher(line);
                if (call.matches()) {
                    due(line, answer(air, call.group(1), call.group(2)), call.group(3));
                    asked++;
                } else {
                    fault("no answer stands behind: " + line);
                }
            }
        }
        return asked;
    }

    private static void due(String line, String got, String want) {
        if (!got.equals(want)) {
            fault("it answers " + got + ": " + line);
        }
    }

    private static String answer(SharedAir air, String name, String told) throws IllegalAccessException {
        String[] numbers = told.isBlank() ? new String[0] : told.split(",");
        for (Method m : SharedAir.class.getDeclaredMethods()) {
            if (m.getName().equals(name) && m.getParameterCount() == numbers.length) {
                Object[] given = new Object[numbers.length];
                for (int i = 0; i < given.length; i++) {
                    given[i] = Long.decode(numbers[i].trim()).intValue();
                }
                return answer(air, m, given);
            }
        }
        return "no such call";
    }

    private static String answer(SharedAir air, Method m, Object[] given) throws IllegalAccessException {
        try {
            return m.invoke(air, given).toString();
        } catch (InvocationTargetException e) {
            return e.getCause().getClass().getSimpleName();
        }
    }

    private static void namesTheFace(String readme) {
        TreeSet<String> missing = new TreeSet<>();
        for (Method m : SharedAir.class.getMethods()) {
            boolean own = m.getDeclaringClass() == SharedAir.class;
            if (own && !Pattern.compile("`[^`\n]*\\b" + m.getName() + "\\(").matcher(readme).find()) {
                missing.add(m.getName());
            }
        }
        if (!missing.isEmpty()) {
            fault("it does not name " + missing);
        }
    }
}
