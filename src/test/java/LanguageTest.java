import java.io.IOException;
import java.lang.reflect.Field;
import java.lang.reflect.Method;
import java.lang.reflect.Modifier;
import java.nio.file.Files;
import java.nio.file.Path;
import java.util.ArrayList;
import java.util.HashSet;
import java.util.List;
import java.util.Map;
import java.util.Set;
import java.util.TreeMap;
import java.util.TreeSet;
import java.util.regex.Matcher;
import java.util.regex.Pattern;

/** The rules of LANGUAGE.md that the program's text or its class can show; FaceTest looks at rule 1. */
public final class LanguageTest {
    private static final Path PROGRAM = Path.of("src/main/java/GoalEngine.java");

    private static final Set<String> IMPORTS = Set.of("java.util.Arrays", "java.util.ArrayList", "java.util.List",
            "java.util.Iterator", "java.util.NoSuchElementException");
    private static final Set<String> FUNCTIONS_OF_NUMBERS = Set.of("compare", "max", "min", "abs", "bitCount",
            "floorDiv", "floorMod", "signum", "highestOneBit", "lowestOneBit", "numberOfLeadingZeros",
            "numberOfTrailingZeros");
    private static final Set<String> FUNCTIONS_OF_ARRAYS = Set.of("copyOf", "copyOfRange", "fill");
    private static final Set<String> THROWN = Set.of("IllegalStateException", "IllegalArgumentException",
            "IndexOutOfBoundsException", "ArithmeticException", "UnsupportedOperationException",
            "NoSuchElementException", "RuntimeException");
    private static final Set<Class<?>> STATIC_TYPES = Set.of(int.class, long.class, boolean.class, char.class,
            String.class, int[].class, long[].class, char[].class, byte[].class);
    private static final List<String> RULED_OUT = List.of("->", "::", "\\bfinally\\b", "\\bsynchronized\\b",
            "\\bassert\\b", "\\bimport static\\b", "\\bpackage\\b", "\\bstatic\\s*\\{", "\\btry\\s*\\(", "\\bThread\\b",
            "\\bhashCode\\b", "\\btoString\\b", "\\bgetMessage\\b", "\\w+Exact\\b", "\\bextends \\w*Exception\\b");

    private static final int MOST_PARAMETERS = 7;
    private static final int MOST_LINES = 60;
    private static final int MOST_FIELDS = 20;
    private static final int MOST_CALLS_DEEP = 8;
    /** Calls itself, with a limit of the document on its depth. */
    private static final String RECURSIVE = "resultOf";

    private static final Pattern METHOD = Pattern.compile(
            "(?:(?:public|private|static|final) )*[\\w\\[\\]]+ (\\w+)\\([^()]*\\)\\s*(?:throws [\\w,\\s]+)?\\{");
    private static final Pattern CALLED = Pattern.compile("\\b([a-z]\\w*)\\(");
    private static final Pattern OF_LIBRARY = Pattern.compile("\\b([A-Z][a-z]\\w*)\\.(\\w+)(\\(?)");

    private final Check check = new Check();
    private final String code;
    /** The methods' texts by their names; those of one name are taken together. */
    private final Map<String, String> bodies = new TreeMap<>();

    private LanguageTest(String code) {
        this.code = code;
    }

    private static String withoutComments(String text) {
        return Pattern.compile("/\\*.*?\\*/", Pattern.DOTALL).matcher(text).replaceAll("").replaceAll("//[^\n]*", "");
    }

    private void readMethods() {
        Matcher header = METHOD.matcher(code);
        while (header.find()) {
            int end = endOfBody(header.end());
            String body = code.substring(header.end(), end);
            bodies.merge(header.group(1), body, String::concat);
            check.dueTrue(header.group(1) + " has at most " + MOST_LINES + " lines",
                    code.substring(header.start(), end).lines().count() <= MOST_LINES);
        }
        check.dueTrue("methods were found", bodies.size() > 50 && bodies.containsKey(RECURSIVE));
    }

    private int endOfBody(int start) {
        int open = 1;
        int at = start;
        while (open > 0) {
            char c = code.charAt(at);
            open += c == '{' ? 1 : c == '}' ? -1 : 0;
            at++;
        }
        return at;
    }

    /** Rules 2, 5, 6 and 10: forms that are not left. */
    private void ruledOutForms() {
        for (String form : RULED_OUT) {
            check.due("rule 2, 5, 6 or 10: " + form, "false", "" + Pattern.compile(form).matcher(code).find());
        }
    }

    /** Rule 4: no import and no member of a library class but those that are listed; a constant is none of them. */
    private void library() {
        Matcher imported = Pattern.compile("import ([\\w.*]+);").matcher(code);
        while (imported.find()) {
            check.dueTrue("rule 4: import of " + imported.group(1), IMPORTS.contains(imported.group(1)));
        }
        Matcher used = OF_LIBRARY.matcher(code.replaceAll("import [^;]*;", ""));
        while (used.find()) {
            check.dueTrue("rule 4: " + used.group(), used.group(3).equals("(") && isListed(used.group(1), used.group(2)));
        }
    }

    private static boolean isListed(String owner, String function) {
        return switch (owner) {
            case "Math", "Integer", "Long" -> FUNCTIONS_OF_NUMBERS.contains(function);
            case "Arrays" -> FUNCTIONS_OF_ARRAYS.contains(function);
            case "System" -> function.equals("arraycopy");
            case "List" -> function.equals("of");
            default -> false;
        };
    }

    /** Rule 6: only the listed exceptions are made, and only to be thrown. */
    private void exceptions() {
        Matcher made = Pattern.compile("(\\w+) new (\\w+Exception|\\w+Error|Throwable)\\(").matcher(code);
        while (made.find()) {
            check.dueTrue("rule 6: " + made.group(), made.group(1).equals("throw") && THROWN.contains(made.group(2)));
        }
    }

    /** Rules 5 and 11, as far as the class shows them. */
    private void membersOf(Class<?> owner) {
        int fields = 0;
        for (Field field : owner.getDeclaredFields()) {
            if (Modifier.isStatic(field.getModifiers())) {
                check.dueTrue("rule 5: type of " + field, STATIC_TYPES.contains(field.getType()));
            } else {
                fields++;
            }
        }
        check.dueTrue("rule 11: fields of " + owner, fields <= MOST_FIELDS);
        for (Method method : owner.getDeclaredMethods()) {
            check.dueTrue("rule 11: parameters of " + method, method.getParameterCount() <= MOST_PARAMETERS);
        }
    }

    /** Rules 8 and 11: one method calls itself, and no other way of calls comes back or goes too deep. */
    private void callsGoDeep() {
        for (Method method : GoalEngine.class.getDeclaredMethods()) {
            if (Modifier.isPublic(method.getModifiers())) {
                int depth = depthOf(method.getName(), new HashSet<>());
                check.dueTrue("rule 11: calls of " + method.getName() + " go " + depth + " deep",
                        depth <= MOST_CALLS_DEEP);
            }
        }
    }

    private int depthOf(String name, Set<String> above) {
        check.due("rule 8: " + name + " is called below itself", "false", "" + above.contains(name));
        if (!above.add(name)) {
            return MOST_CALLS_DEEP + 1;
        }
        int deepest = 0;
        for (String called : calledBy(name)) {
            deepest = Math.max(deepest, depthOf(called, above));
        }
        above.remove(name);
        return 1 + deepest;
    }

    private Set<String> calledBy(String name) {
        Set<String> found = new TreeSet<>();
        Matcher call = CALLED.matcher(bodies.get(name));
        while (call.find()) {
            boolean isGuarded = name.equals(RECURSIVE) && call.group(1).equals(RECURSIVE);
            if (bodies.containsKey(call.group(1)) && !isGuarded) {
                found.add(call.group(1));
            }
        }
        return found;
    }

    private void lookAtAll() {
        readMethods();
        ruledOutForms();
        library();
        exceptions();
        List<Class<?>> owners = new ArrayList<>(List.of(GoalEngine.class.getDeclaredClasses()));
        owners.add(GoalEngine.class);
        owners.forEach(this::membersOf);
        callsGoDeep();
        check.end();
    }

    public static void main(String[] args) throws IOException {
        new LanguageTest(withoutComments(Files.readString(PROGRAM))).lookAtAll();
    }
}
