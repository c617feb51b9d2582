import java.io.IOException;
import java.lang.reflect.Method;
import java.lang.reflect.Modifier;
import java.nio.file.Files;
import java.nio.file.Path;
import java.util.regex.Matcher;
import java.util.regex.Pattern;

/** The calls of the example in README.md answer what is written beside them; each public call is told there. */
public final class ReadmeTest {
    private static final Pattern CALL = Pattern.compile("x\\.(\\w+)\\(([-\\d, ]*)\\);\\s+// (-?\\d+): .+");
    private static final int LEAST_CALLS = 5;

    private static int wrong = 0;

    public static void main(String[] args) throws IOException, ReflectiveOperationException {
        String readme = Files.readString(Path.of("README.md"));
        example(readme);
        tells(readme);
        System.out.println(wrong == 0 ? "README.md is as due" : wrong + " things are not as due");
        if (wrong != 0) {
            System.exit(1);
        }
    }

    private static void check(String what, boolean holds) {
        if (!holds) {
            wrong++;
            System.out.println("it does not hold that " + what);
        }
    }

    private static void example(String readme) throws ReflectiveOperationException {
        String[] parts = readme.split("```(java)?\n");
        check("there is an example", parts.length > 1);
        SilentAsking x = new SilentAsking();
        int called = 0;
        for (String line : (parts.length > 1 ? parts[1] : "").split("\n")) {
            Matcher call = CALL.matcher(line);
            if (call.matches()) {
                called++;
                long got = answered(x, call.group(1), call.group(2));
                check(line + " (answered " + got + ")", got == Long.parseLong(call.group(3)));
            } else {
                check(line + " is an object made", line.equals("SilentAsking x = new SilentAsking();"));
            }
        }
        check("the example has some calls", called >= LEAST_CALLS);
    }

    private static long answered(SilentAsking x, String name, String list) throws ReflectiveOperationException {
        String[] texts = list.isEmpty() ? new String[0] : list.split(", ");
        Class<?>[] types = new Class<?>[texts.length];
        Object[] with = new Object[texts.length];
        for (int q = 0; q < texts.length; q++) {
            types[q] = int.class;
            with[q] = Integer.valueOf(texts[q]);
        }
        return ((Number) SilentAsking.class.getMethod(name, types).invoke(x, with)).longValue();
    }

    private static void tells(String readme) {
        for (Method method : SilentAsking.class.getDeclaredMethods()) {
            if (Modifier.isPublic(method.getModifiers())) {
                long rows = readme.lines().filter(line -> line.startsWith("| `" + method.getName() + "(")).count();
                check("README.md has a row for " + method.getName(), rows == 1);
            }
        }
        for (String constant : new String[] {"UNKNOWN` | -1", "BAD` | -2", "STATE` | -3", "CAST` | -13", "NONE` | -9"}) {
            check("README.md tells what `" + constant + " is", readme.contains("| `" + constant + " |"));
        }
        check("README.md tells for how many calls an object is used", readme.contains("512 calls"));
    }
}
