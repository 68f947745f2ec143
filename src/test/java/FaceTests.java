import java.lang.reflect.Constructor;
import java.lang.reflect.Field;
import java.lang.reflect.Method;
import java.lang.reflect.Modifier;
import java.util.HashSet;
import java.util.Set;
import java.util.TreeSet;

/** Whether the class has the document's face and nothing besides it. */
final class FaceTests {

    private static final String INDEX = " throws IndexOutOfBoundsException";
    private static final String REFUSED = " UnsupportedOperationException";
    private static final String MISSING = " NoSuchElementException";

    private static final String[] FACE = {
        "int start()", "int clear()",
        "int lay(int int int)" + INDEX + " IllegalArgumentException IllegalStateException",
        "int wall(int)" + INDEX + " IllegalStateException",
        "int move(int int)" + INDEX + REFUSED, "int door(int)" + INDEX + REFUSED, "int buy(int)" + INDEX + REFUSED,
        "int square(int int)" + INDEX + " IllegalArgumentException",
        "boolean canMove(int int)" + INDEX + MISSING, "int moves(int)" + INDEX + MISSING,
        "int captures(int int)" + INDEX + MISSING, "int best() throws" + MISSING, "int worth(int int)" + INDEX + MISSING,
        "int rooms(int)" + INDEX, "int room(int int)" + INDEX + MISSING,
        "int roomOf(int int int)" + INDEX + " IllegalArgumentException",
        "int sealed(int)" + INDEX, "int sealedAgain(int)" + INDEX, "int steps(int int)" + INDEX + MISSING,
        "double sealedShare(int)" + INDEX + " ArithmeticException",
        "int append(char) throws IllegalArgumentException IllegalStateException",
        "int read() throws IllegalArgumentException" + REFUSED, "int errorPosition() throws" + MISSING,
        "int reason(boolean) throws" + MISSING, "char picture(int)" + INDEX,
        "int account(int) throws IllegalArgumentException", "int undo() throws" + MISSING, "int save()",
        "int restore() throws IllegalStateException",
    };

    private FaceTests() {
    }

    static void run(Checks checks) {
        Class<SealedBoard> type = SealedBoard.class;
        checks.isTrue("public and final", Modifier.isPublic(type.getModifiers())
                && Modifier.isFinal(type.getModifiers()));
        Set<String> due = new TreeSet<>(Set.of(FACE));
        Set<String> got = new TreeSet<>();
        Set<String> names = new HashSet<>();
        for (Method method : type.getDeclaredMethods()) {
            if (!Modifier.isPrivate(method.getModifiers())) {
                got.add(written(method));
                names.add(method.getName());
            }
        }
        checks.same("the public methods", due, got);
        for (Constructor<?> constructor : type.getDeclaredConstructors()) {
            checks.isTrue("a public constructor without parameters",
                    Modifier.isPublic(constructor.getModifiers()) && constructor.getParameterCount() == 0);
        }
        checks.same("public classes inside", 0, type.getClasses().length);
        checkPrivate(checks, type, names);
        for (Class<?> inside : type.getDeclaredClasses()) {
            checks.isTrue(inside + " is static", Modifier.isStatic(inside.getModifiers()));
        }
    }

    private static void checkPrivate(Checks checks, Class<?> type, Set<String> names) {
        for (Method method : type.getDeclaredMethods()) {
            boolean isHidden = Modifier.isPrivate(method.getModifiers());
            checks.isTrue(method + " has a name of its own", !isHidden || !names.contains(method.getName()));
        }
        for (Field field : type.getDeclaredFields()) {
            checks.isTrue(field + " is private", Modifier.isPrivate(field.getModifiers()));
            checks.isTrue(field + " is no changing static one",
                    !Modifier.isStatic(field.getModifiers()) || Modifier.isFinal(field.getModifiers()));
        }
    }

    private static String written(Method method) {
        StringBuilder text = new StringBuilder(method.getReturnType().getSimpleName());
        text.append(' ').append(method.getName()).append('(');
        String gap = "";
        for (Class<?> parameter : method.getParameterTypes()) {
            text.append(gap).append(parameter.getSimpleName());
            gap = " ";
        }
        gap = ") throws ";
        for (Class<?> thrown : method.getExceptionTypes()) {
            text.append(gap).append(thrown.getSimpleName());
            gap = " ";
        }
        return gap.equals(" ") ? text.toString() : text.append(')').toString();
    }
}
