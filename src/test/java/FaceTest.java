import java.lang.reflect.Field;
import java.lang.reflect.Method;
import java.lang.reflect.Modifier;
import java.util.Arrays;
import java.util.HashSet;
import java.util.Set;
import java.util.TreeSet;
import java.util.stream.Collectors;

/** The class has the document's face and nothing else that another class could see. */
public final class FaceTest {
    private static final String ARGUMENT = "IllegalArgumentException";
    private static final String STATE = "IllegalStateException";
    private static final Set<String> METHODS = Set.of(
            "int put(int) throws " + ARGUMENT + ", " + STATE,
            "int rule() throws " + STATE + ", " + ARGUMENT,
            "int ask() throws " + ARGUMENT,
            "int solve(int) throws " + ARGUMENT + ", " + STATE + ", ArithmeticException, UnsupportedOperationException",
            "boolean next() throws " + STATE,
            "void stop()",
            "int collect()",
            "int count(int) throws " + ARGUMENT,
            "int words()",
            "int word(int) throws IndexOutOfBoundsException");

    private static String names(Class<?>[] types) {
        return Arrays.stream(types).map(Class::getSimpleName).collect(Collectors.joining(", "));
    }

    private static String signature(Method method) {
        String thrown = names(method.getExceptionTypes());
        return method.getReturnType() + " " + method.getName() + "(" + names(method.getParameterTypes()) + ")"
                + (thrown.isEmpty() ? "" : " throws " + thrown);
    }

    private static void lookAtMethods(Check check) {
        Set<String> open = new TreeSet<>();
        Set<String> openNames = new HashSet<>();
        for (Method method : GoalEngine.class.getDeclaredMethods()) {
            if (Modifier.isPublic(method.getModifiers())) {
                open.add(signature(method));
                openNames.add(method.getName());
            }
        }
        check.due("public methods", new TreeSet<>(METHODS).toString(), open.toString());
        for (Method method : GoalEngine.class.getDeclaredMethods()) {
            boolean isPrivate = Modifier.isPrivate(method.getModifiers());
            if (!Modifier.isPublic(method.getModifiers()) && !method.isSynthetic()) {
                check.due(method + " is private", "true", "" + isPrivate);
                check.due(method + " bears a public name", "false", "" + openNames.contains(method.getName()));
            }
        }
    }

    private static void lookAtFields(Class<?> owner, Check check) {
        for (Field field : owner.getDeclaredFields()) {
            int modifiers = field.getModifiers();
            if (owner == GoalEngine.class) {
                check.due(field + " is private", "true", "" + Modifier.isPrivate(modifiers));
            }
            if (Modifier.isStatic(modifiers)) {
                check.due(field + " is final", "true", "" + Modifier.isFinal(modifiers));
            }
        }
    }

    private static void lookAtClassesInside(Check check) {
        Class<?>[] inside = GoalEngine.class.getDeclaredClasses();
        check.due("twelve classes at the most", "true", "" + (inside.length + 1 <= 12));
        for (Class<?> one : inside) {
            int modifiers = one.getModifiers();
            check.due(one + " is open", "false",
                    "" + (Modifier.isPublic(modifiers) || Modifier.isProtected(modifiers)));
            check.due(one + " is static", "true", "" + Modifier.isStatic(modifiers));
            lookAtFields(one, check);
        }
    }

    public static void main(String[] args) {
        Check check = new Check();
        int modifiers = GoalEngine.class.getModifiers();
        check.due("public and final", "true", "" + (Modifier.isPublic(modifiers) && Modifier.isFinal(modifiers)));
        check.due("constructors", "[public GoalEngine()]",
                Arrays.toString(GoalEngine.class.getDeclaredConstructors()));
        lookAtMethods(check);
        lookAtFields(GoalEngine.class, check);
        lookAtClassesInside(check);
        check.end();
    }
}
