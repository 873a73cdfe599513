import java.lang.reflect.Constructor;
import java.lang.reflect.Field;
import java.lang.reflect.Method;
import java.lang.reflect.Modifier;
import java.util.Arrays;
import java.util.TreeSet;

/** The public face of the document, and nothing beside it. */
public final class FaceTest {
    private static final Checks CHECKS = new Checks();
    private static final String INDEX = " IndexOutOfBoundsException";
    private static final String ARGUMENT = " IllegalArgumentException";
    private static final String STATE = " IllegalStateException";
    private static final String[] FACE = {
        "int addSack(int)" + ARGUMENT + STATE,
        "int put(int, int, int)" + INDEX + ARGUMENT + STATE,
        "int dry(int, int)" + INDEX + ARGUMENT,
        "int sack(int, int)" + INDEX,
        "int setWind(int)" + ARGUMENT,
        "int blow(int)" + INDEX,
        "int sweep(int, int)" + INDEX,
        "int chamber(int, int)" + INDEX,
        "int bestWind(int, int, int)" + INDEX,
        "int addTick(int, int, int)" + ARGUMENT + STATE,
        "int sew(int, int, int, boolean)" + INDEX + ARGUMENT,
        "int fill(int, int, int, int)" + INDEX + ARGUMENT,
        "int shift(int, int, int, int)" + INDEX + ARGUMENT,
        "int square(int, int, int)" + INDEX,
        "int tick(int, int)" + INDEX,
        "int pass(int)" + ARGUMENT,
        "int count(int)" + INDEX,
        "int foresee(int, int, int)" + INDEX + ARGUMENT,
        "int lasts(int, int)" + INDEX + ARGUMENT,
        "int advise(int, int)" + INDEX + ARGUMENT,
        "double filled()",
        "long digest()",
    };

    public static void main(String[] args) {
        Class<?> face = FeatherBeds.class;
        CHECKS.isTrue("public and final", Modifier.isPublic(face.getModifiers()) && Modifier.isFinal(face.getModifiers()));
        Constructor<?>[] constructors = face.getDeclaredConstructors();
        CHECKS.due("constructors", constructors.length, 1);
        CHECKS.isTrue("a public one", Modifier.isPublic(constructors[0].getModifiers()));
        CHECKS.due("what it takes", constructors[0].getParameterCount(), 0);
        for (Field field : face.getDeclaredFields()) {
            CHECKS.isTrue(field.getName() + " is private", Modifier.isPrivate(field.getModifiers()));
        }
        methods(face);
        CHECKS.end();
    }

    private static void methods(Class<?> face) {
        TreeSet<String> due = new TreeSet<>(Arrays.asList(FACE));
        TreeSet<String> names = new TreeSet<>();
        for (String line : FACE) {
            names.add(line.substring(line.indexOf(' ') + 1, line.indexOf('(')));
        }
        for (Method method : face.getDeclaredMethods()) {
            if (Modifier.isPrivate(method.getModifiers())) {
                CHECKS.isTrue("another name than a public one's: " + method.getName(), !names.contains(method.getName()));
            } else if (!method.isSynthetic()) {
                CHECKS.isTrue("in the document: " + lineOf(method), due.remove(lineOf(method)));
                CHECKS.isTrue("public: " + method.getName(), Modifier.isPublic(method.getModifiers()));
            }
        }
        CHECKS.isTrue("all of the face is there, but " + due, due.isEmpty());
    }

    private static String lineOf(Method method) {
        StringBuilder line = new StringBuilder();
        line.append(method.getReturnType()).append(' ').append(method.getName()).append('(');
        Class<?>[] taken = method.getParameterTypes();
        for (int i = 0; i < taken.length; i++) {
            line.append(i > 0 ? ", " : "").append(taken[i]);
        }
        line.append(')');
        for (Class<?> thrown : method.getExceptionTypes()) {
            line.append(' ').append(thrown.getSimpleName());
        }
        return line.toString();
    }
}
