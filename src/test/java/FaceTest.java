import java.lang.reflect.Constructor;
import java.lang.reflect.Field;
import java.lang.reflect.Method;
import java.lang.reflect.Modifier;
import java.util.Arrays;
import java.util.Set;
import java.util.TreeSet;

/** The public face of the document, and no other; the constants. */
public final class FaceTest {
    private static final Set<String> FACE = new TreeSet<>(Arrays.asList(
            "int set(int, long, boolean)",
            "boolean digits(long)",
            "int read(int, int)",
            "int work(int, int, int, int)",
            "int shift(int, int, int, boolean)",
            "int turn(int, int, boolean)",
            "int compare(int, int)",
            "int bits(int)",
            "boolean fits(int, int, boolean)",
            "long cut(int, int, boolean)",
            "int write(int, int)",
            "int byteOf(int)"));

    public static void main(String[] args) {
        Checks checks = new Checks();
        Class<?> type = ExactNumbers.class;
        checks.sentence("The constants: FINE = 0, GREAT = 1, ZERO = 2, WRONG = 3");
        constants(checks);
        checks.sentence("The public face");
        checks.due("class public final",
                Modifier.isPublic(type.getModifiers()) && Modifier.isFinal(type.getModifiers()), true);
        methods(checks, type);
        constructors(checks, type);
        fields(checks, type);
        for (Class<?> inside : type.getDeclaredClasses()) {
            int modifiers = inside.getModifiers();
            checks.due("class inside " + inside.getName(), Modifier.isStatic(modifiers)
                    && !Modifier.isPublic(modifiers) && !Modifier.isProtected(modifiers), true);
        }
        checks.end();
    }

    private static void constants(Checks checks) {
        checks.due("FINE", ExactNumbers.FINE, 0);
        checks.due("GREAT", ExactNumbers.GREAT, 1);
        checks.due("ZERO", ExactNumbers.ZERO, 2);
        checks.due("WRONG", ExactNumbers.WRONG, 3);
    }

    private static void methods(Checks checks, Class<?> type) {
        Set<String> seen = new TreeSet<>();
        Set<String> publicNames = new TreeSet<>();
        for (String line : FACE) {
            publicNames.add(line.substring(line.indexOf(' ') + 1, line.indexOf('(')));
        }
        for (Method method : type.getDeclaredMethods()) {
            if (Modifier.isPrivate(method.getModifiers())) {
                checks.due("private " + method.getName() + " named as a public one",
                        publicNames.contains(method.getName()), false);
            } else {
                seen.add(line(method));
            }
        }
        checks.due("methods", seen, FACE);
    }

    private static String line(Method method) {
        StringBuilder line = new StringBuilder();
        line.append(method.getReturnType()).append(' ').append(method.getName()).append('(');
        for (Class<?> parameter : method.getParameterTypes()) {
            line.append(line.charAt(line.length() - 1) == '(' ? "" : ", ").append(parameter);
        }
        return line.append(')').toString();
    }

    private static void constructors(Checks checks, Class<?> type) {
        Constructor<?>[] all = type.getDeclaredConstructors();
        checks.due("constructors", all.length, 1);
        checks.due("constructor public", Modifier.isPublic(all[0].getModifiers()), true);
        checks.due("constructor's parameters", all[0].getParameterCount(), 0);
    }

    private static void fields(Checks checks, Class<?> type) {
        Set<String> seen = new TreeSet<>();
        for (Field field : type.getDeclaredFields()) {
            int modifiers = field.getModifiers();
            if (!Modifier.isPrivate(modifiers)) {
                seen.add(field.getName());
            }
            checks.due("static field not final: " + field.getName(),
                    Modifier.isStatic(modifiers) && !Modifier.isFinal(modifiers), false);
        }
        checks.due("fields that are seen", seen,
                new TreeSet<>(Arrays.asList("FINE", "GREAT", "ZERO", "WRONG")));
    }
}
