import java.io.IOException;
import java.lang.reflect.Field;
import java.lang.reflect.Method;
import java.lang.reflect.Modifier;
import java.nio.file.Files;
import java.nio.file.Path;
import java.util.Arrays;
import java.util.Set;
import java.util.regex.Matcher;
import java.util.regex.Pattern;

/**
 * What can be seen of LANGUAGE.md's rules in the words and the members of the class. What must be
 * read by a person (that each index is looked at, that each loop ends) is not seen here.
 */
public final class LanguageTest {
    private static final Set<String> RULED_OUT = Set.of(
        "import", "package", "throw", "throws", "try", "catch", "finally", "synchronized", "assert",
        "native", "volatile", "transient", "protected", "equals", "hashCode", "toString");
    /** The signs of lambdas, of method references and of annotations; texts the class has none. */
    private static final String[] SIGNS_RULED_OUT = {"->", "::", "@", "\"", "'"};
    /** Every name with a small letter in it that begins with a great one, and what is taken of the library's. */
    private static final Set<String> NAMES = Set.of(
        "SilentAsking", "Store", "Question", "Row", "Curve", "System", "Integer");
    private static final Set<String> LIBRARY = Set.of("System.arraycopy", "Integer.bitCount");
    private static final int MOST_LINES = 60, MOST_PARAMETERS = 7, MOST_CLASSES = 12, MOST_FIELDS = 20;

    private static int wrong = 0;

    public static void main(String[] args) throws IOException {
        String text = Files.readString(Path.of("src/main/java/SilentAsking.java"));
        String code = text.replaceAll("(?s)/\\*.*?\\*/", "").replaceAll("//[^\n]*", "");
        check("the class is of signs 1 to 127", text.chars().allMatch(sign -> sign >= 1 && sign <= 127));
        words(code);
        makesObjectsOnceAlone(code);
        methodsAreShort(code);
        members();
        System.out.println(wrong == 0 ? "the language is as due" : wrong + " things are not as due");
        if (wrong != 0) {
            System.exit(1);
        }
    }

    private static void check(String what, boolean holds) {
        if (!holds) {
            wrong++;
            System.out.println("it does not hold that " + what);
        }
    }

    private static void words(String code) {
        for (String sign : SIGNS_RULED_OUT) {
            check("there is no " + sign, !code.contains(sign));
        }
        Matcher word = Pattern.compile("\\w+").matcher(code);
        while (word.find()) {
            check("there is no " + word.group(), !RULED_OUT.contains(word.group()));
        }
        Matcher name = Pattern.compile("\\b[A-Z]\\w*[a-z]\\w*").matcher(code);
        while (name.find()) {
            check(name.group() + " is a name that is known", NAMES.contains(name.group()));
        }
        Matcher taken = Pattern.compile("\\b(System|Integer)\\s*\\.\\s*\\w+").matcher(code);
        while (taken.find()) {
            check(taken.group() + " is of the library", LIBRARY.contains(taken.group()));
        }
    }

    /** In fields and in the constructor: so no call makes an object, and the room is not filled. */
    private static void makesObjectsOnceAlone(String code) {
        for (String line : code.split("\n")) {
            if (line.matches(".*\\bnew\\b.*")) {
                check("made once: " + line.trim(), line.contains(" private final ") || line.contains("stores[j] = "));
            }
        }
    }

    /** The class keeps four signs a level: a method ends where a line closes it at its own level. */
    private static void methodsAreShort(String code) {
        String[] lines = code.split("\n");
        for (int begin = 0; begin < lines.length; begin++) {
            Matcher head = Pattern.compile("( +)(public|private) [^=]*\\) \\{").matcher(lines[begin]);
            if (head.matches()) {
                int end = begin;
                while (end < lines.length && !lines[end].equals(head.group(1) + "}")) {
                    end++;
                }
                check("it is short: " + lines[begin].trim(), end - begin < MOST_LINES);
            }
        }
    }

    private static void members() {
        Class<?>[] inside = SilentAsking.class.getDeclaredClasses();
        check("there are few classes", inside.length < MOST_CLASSES);
        membersOf(SilentAsking.class);
        for (Class<?> one : inside) {
            check(one + " has none inside", one.getDeclaredClasses().length == 0);
            membersOf(one);
        }
    }

    private static void membersOf(Class<?> one) {
        int own = 0;
        for (Field field : one.getDeclaredFields()) {
            boolean isStatic = Modifier.isStatic(field.getModifiers());
            own += isStatic ? 0 : 1;
            check(field + " is final", !isStatic || Modifier.isFinal(field.getModifiers()));
            check(field + " is of a type that a static field may have",
                !isStatic || Set.of(int.class, int[].class).contains(field.getType()));
        }
        check(one + " has few fields", own <= MOST_FIELDS);
        for (Method method : one.getDeclaredMethods()) {
            check(method + " takes few parameters", method.getParameterCount() <= MOST_PARAMETERS);
            boolean mine = Arrays.asList("equals", "hashCode", "toString").contains(method.getName());
            check(method + " is not of every object", !mine);
        }
    }
}
