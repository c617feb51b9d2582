import java.lang.reflect.Constructor;
import java.lang.reflect.Field;
import java.lang.reflect.Method;
import java.lang.reflect.Modifier;
import java.util.Arrays;
import java.util.TreeSet;

/** The class has the document's face, and no other member that another class can see. */
public final class FaceTest {
    private static final String[] METHODS = {
        "int records(int)", "int put(int,int)", "int record(int)", "int store(int,int,int)",
        "int taken(int,int,int)", "int copy(int,int)", "int sum(int,int,int)",
        "int ask(int,int,int)", "int veil(int)", "int point(int,int)", "int answer(int)",
        "int needed(int,int,int)", "int fetch(int)", "int caught(int)", "int mends(int)",
        "long ways(int,int)", "int might(int)", "int learns(int)", "int least()", "int fits(int,int)",
        "int both(int,int)", "int pair(int,int,int,int)", "int total(int)"};
    private static final String[] CONSTANTS = {
        "UNKNOWN=-1", "BAD=-2", "STATE=-3", "NONE=-9", "CAST=-13"};

    private static int wrong = 0;

    private static void same(String what, TreeSet<String> got, String[] want) {
        TreeSet<String> due = new TreeSet<>(Arrays.asList(want));
        if (!got.equals(due)) {
            wrong++;
            System.out.println(what + " are " + got + ", due are " + due);
        }
    }

    private static void check(String what, boolean holds) {
        if (!holds) {
            wrong++;
            System.out.println("it does not hold that " + what);
        }
    }

    public static void main(String[] args) throws IllegalAccessException {
        Class<SilentAsking> face = SilentAsking.class;
        check("the class is public and final", face.getModifiers() == (Modifier.PUBLIC | Modifier.FINAL));
        methods(face);
        constants(face);
        Constructor<?>[] makers = face.getDeclaredConstructors();
        check("there is one constructor", makers.length == 1);
        check("it is public and takes nothing",
            makers[0].getModifiers() == Modifier.PUBLIC && makers[0].getParameterCount() == 0);
        for (Class<?> inside : face.getDeclaredClasses()) {
            check(inside + " is static", Modifier.isStatic(inside.getModifiers()));
            check(inside + " is not public", !Modifier.isPublic(inside.getModifiers()));
        }
        System.out.println(wrong == 0 ? "the face is as due" : wrong + " things are not as due");
        if (wrong != 0) {
            System.exit(1);
        }
    }

    private static void methods(Class<?> face) {
        TreeSet<String> seen = new TreeSet<>();
        TreeSet<String> names = new TreeSet<>();
        for (Method method : face.getDeclaredMethods()) {
            if (!Modifier.isPrivate(method.getModifiers())) {
                seen.add(told(method));
                names.add(method.getName());
                check(method + " is public alone", method.getModifiers() == Modifier.PUBLIC);
            }
        }
        same("methods", seen, METHODS);
        for (Method method : face.getDeclaredMethods()) {
            check(method + " bears a name of its own",
                !Modifier.isPrivate(method.getModifiers()) || !names.contains(method.getName()));
        }
    }

    private static String told(Method method) {
        StringBuilder text = new StringBuilder();
        text.append(method.getReturnType()).append(' ').append(method.getName()).append('(');
        for (Class<?> type : method.getParameterTypes()) {
            text.append(text.charAt(text.length() - 1) == '(' ? "" : ",").append(type);
        }
        return text.append(')').toString();
    }

    private static void constants(Class<?> face) throws IllegalAccessException {
        TreeSet<String> seen = new TreeSet<>();
        for (Field field : face.getDeclaredFields()) {
            int flags = field.getModifiers();
            if (!Modifier.isPrivate(flags)) {
                check(field + " is a constant",
                    flags == (Modifier.PUBLIC | Modifier.STATIC | Modifier.FINAL) && field.getType() == int.class);
                seen.add(field.getName() + "=" + field.getInt(null));
            } else if (Modifier.isStatic(flags)) {
                check(field + " is final", Modifier.isFinal(flags));
            }
        }
        same("constants", seen, CONSTANTS);
    }
}
