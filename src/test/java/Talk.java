import java.util.ArrayList;
import java.util.HashMap;
import java.util.List;
import java.util.Map;

/**
 * Turns a text into words, so that tests can be read. A, B, .. H are the variables 0 .. 7, a number stands for
 * itself, ! is the cut, and a name is n and its value, or one of the names below, with its arguments in brackets.
 */
final class Talk {
    private static final Map<String, Integer> NAMES = new HashMap<>();

    static {
        String[] builtIn = {"same", "is", "less", "equal", "sum", "diff", "prod", "quot"};
        for (int i = 0; i < builtIn.length; i++) {
            NAMES.put(builtIn[i], 24 + i);
        }
        NAMES.put("nil", 0);
        NAMES.put("cons", 1);
    }

    private final String text;
    private int at;
    private final List<Integer> out = new ArrayList<>();

    private Talk(String text) {
        this.text = text.replace(" ", "");
    }

    static int[] words(String text) {
        Talk talk = new Talk(text);
        while (talk.at < talk.text.length()) {
            talk.term();
            talk.skip(',');
        }
        return talk.out.stream().mapToInt(i -> i).toArray();
    }

    static void type(GoalEngine engine, String text) {
        for (int word : words(text)) {
            engine.put(word);
        }
    }

    static int rule(GoalEngine engine, String text) {
        type(engine, text);
        return engine.rule();
    }

    static GoalEngine engineWith(String... rules) {
        GoalEngine engine = new GoalEngine();
        for (String rule : rules) {
            rule(engine, rule);
        }
        return engine;
    }

    static int ask(GoalEngine engine, String text) {
        type(engine, text);
        return engine.ask();
    }

    /** What one question comes to, with all steps that the tank may have. */
    static int outcome(GoalEngine engine, String question) {
        ask(engine, question);
        return steps(engine, 300);
    }

    /** As many steps as are said, though one call takes 20 at the most. */
    static int steps(GoalEngine engine, int many) {
        int result = 2;
        for (int left = many; left > 0 && result == 2; left -= 20) {
            result = engine.solve(Math.min(left, 20));
        }
        return result;
    }

    /** All that an object shows of itself: the seven counts, and the answer. */
    static String state(GoalEngine engine) {
        StringBuilder row = new StringBuilder();
        for (int which = 0; which <= 6; which++) {
            row.append(engine.count(which)).append(' ');
        }
        return row.append("| ").append(answer(engine)).toString();
    }

    /** The words of the answer, one blank between two. */
    static String answer(GoalEngine engine) {
        StringBuilder row = new StringBuilder();
        for (int i = 0; i < engine.words(); i++) {
            row.append(i == 0 ? "" : " ").append(engine.word(i));
        }
        return row.toString();
    }

    /** The same form as answer has. */
    static String row(String text) {
        StringBuilder row = new StringBuilder();
        for (int word : words(text)) {
            row.append(row.length() == 0 ? "" : " ").append(word);
        }
        return row.toString();
    }

    private void skip(char c) {
        if (at < text.length() && text.charAt(at) == c) {
            at++;
        }
    }

    private void term() {
        char c = text.charAt(at);
        if (c == '!') {
            at++;
            out.add(6);
        } else if (c >= 'A' && c <= 'H') {
            at++;
            out.add((c - 'A') * 8);
        } else if (c == '-' || Character.isDigit(c)) {
            out.add(Integer.parseInt(token()) * 8 + 1);
        } else {
            name();
        }
    }

    private void name() {
        String name = token();
        int value = NAMES.containsKey(name) ? NAMES.get(name) : Integer.parseInt(name.substring(1));
        int place = out.size();
        int arguments = 0;
        out.add(0);
        if (at < text.length() && text.charAt(at) == '(') {
            at++;
            while (text.charAt(at) != ')') {
                term();
                skip(',');
                arguments++;
            }
            at++;
        }
        out.set(place, value * 8 + 2 + arguments);
    }

    private String token() {
        int start = at;
        while (at < text.length() && ",()".indexOf(text.charAt(at)) < 0) {
            at++;
        }
        return text.substring(start, at);
    }
}
