import java.util.Arrays;
import java.util.function.Supplier;
import java.util.function.ToLongFunction;

/**
 * Every refused call of promises 2 to 11, in every state that a search can be in. What stays after it is found by a
 * twin that was not asked for the refused call: from then on both must tell the same story.
 */
public final class RefusedCallsTest {
    private static final Class<IllegalArgumentException> ARGUMENT = IllegalArgumentException.class;
    private static final Class<IllegalStateException> STATE = IllegalStateException.class;
    private static final Class<IndexOutOfBoundsException> INDEX = IndexOutOfBoundsException.class;
    private static final String[] RULES = {"n2(1)", "n2(2)", "n2(3)", "n3,n3", "n4(A),n4(n5(A))", "n6(A,n7(A,A))"};

    private enum Search { OVER, RUNNING, ANSWERED }

    private record Scene(String name, Search search, Supplier<GoalEngine> made) {
    }

    private static final Scene[] SCENES = {
        new Scene("a new object", Search.OVER, GoalEngine::new),
        new Scene("rules alone", Search.OVER, () -> Talk.engineWith(RULES)),
        new Scene("a search that begins", Search.RUNNING, () -> after("n2(A),n2(B)", 0)),
        new Scene("a search with choices", Search.RUNNING, () -> after("n2(A),n2(B),n2(C)", 2)),
        new Scene("a rule that is next", Search.RUNNING, () -> afterNext("n2(A)")),
        new Scene("an answer with choices", Search.ANSWERED, () -> after("n2(A),n2(B)", 2)),
        new Scene("an answer without choices", Search.ANSWERED, () -> after("same(A,n5(B))", 1)),
        new Scene("an answer without words", Search.ANSWERED, () -> after("!", 1)),
        new Scene("a search that failed", Search.OVER, () -> after("n2(4)", 3)),
        new Scene("a search without another answer", Search.OVER, () -> afterNext("same(A,1)")),
        new Scene("a search that was stopped", Search.OVER, RefusedCallsTest::stopped),
        new Scene("an error", Search.OVER, () -> after("n2(A),is(B,C)", 2)),
        new Scene("no room", Search.OVER, () -> after("n4(1)", 80)),
        new Scene("too much", Search.OVER, () -> after("n6(0,A),n6(A,B),n6(B,C),n6(C,D),n6(D,E),n6(E,F),n6(F,G),"
                + "n6(G,H),same(H,H)", 9)),
        new Scene("an empty tank", Search.RUNNING, () -> after("n3", 300)),
        new Scene("an answer and an empty tank", Search.ANSWERED, RefusedCallsTest::answerOfTheLastStep),
    };

    private final Check check = new Check();

    private static GoalEngine after(String question, int steps) {
        GoalEngine x = Talk.engineWith(RULES);
        Talk.ask(x, question);
        Check.answerOf(() -> Talk.steps(x, steps));
        return x;
    }

    private static GoalEngine afterNext(String question) {
        GoalEngine x = after(question, 1);
        x.next();
        return x;
    }

    private static GoalEngine stopped() {
        GoalEngine x = after("n2(A),n2(B)", 1);
        x.stop();
        return x;
    }

    private static GoalEngine answerOfTheLastStep() {
        GoalEngine x = after("n3", 299);
        Talk.ask(x, "n2(A)");
        x.solve(1);
        return x;
    }

    /** What an object does from now on: the search first, then what is typed, then the rules. */
    private static String story(GoalEngine x) {
        StringBuilder told = new StringBuilder(Talk.state(x));
        for (int i = 0; i < 5; i++) {
            told.append("; solve ").append(Check.answerOf(() -> x.solve(2))).append(", ").append(Talk.state(x));
            told.append("; next ").append(Check.answerOf(() -> x.next() ? 1 : 0));
        }
        told.append("; collect ").append(x.collect()).append(", ").append(Talk.state(x));
        x.stop();
        told.append("; ask ").append(Check.answerOf(x::ask)).append(", ").append(Talk.state(x));
        told.append("; solve ").append(Check.answerOf(() -> x.solve(1))).append(", ").append(Talk.state(x));
        x.stop();
        told.append("; rule ").append(Check.answerOf(() -> Talk.rule(x, "n2(9)"))).append(", ").append(Talk.state(x));
        Talk.ask(x, "n2(A)");
        for (int i = 0; i < 5; i++) {
            told.append("; solve ").append(Check.answerOf(() -> x.solve(1))).append(", ").append(Talk.answer(x));
            told.append("; next ").append(Check.answerOf(() -> x.next() ? 1 : 0));
        }
        return told.toString();
    }

    private static GoalEngine typed(Scene scene, int... words) {
        GoalEngine x = scene.made.get();
        for (int word : words) {
            x.put(word);
        }
        return x;
    }

    /** The call throws, and all else is as if it had never been made. */
    private void refused(String call, Scene scene, Class<? extends RuntimeException> thrown,
            ToLongFunction<GoalEngine> made, int... words) {
        GoalEngine x = typed(scene, words);
        String what = call + ", " + scene.name + ", typed " + Arrays.toString(words);
        check.dueThrow(what, thrown, () -> made.applyAsLong(x));
        check.due(what + ": what stays", story(typed(scene, words)), story(x));
    }

    /** The call throws, and what was typed is gone, but nothing else. */
    private void refusedWithWhatIsTyped(String call, Scene scene, ToLongFunction<GoalEngine> made, int... words) {
        GoalEngine x = typed(scene, words);
        String what = call + ", " + scene.name + ", typed " + Arrays.toString(words);
        check.dueThrow(what, ARGUMENT, () -> made.applyAsLong(x));
        check.due(what + ": what stays", story(typed(scene)), story(x));
    }

    /** Promise 2: "IllegalArgumentException: it is none" */
    private void putOfNoWord(Scene scene) {
        for (int word : new int[] {7, -1, 64, -8, 258, 14, Integer.MIN_VALUE, Integer.MAX_VALUE}) {
            refused("put(" + word + ")", scene, ARGUMENT, x -> x.put(word));
            refused("put(" + word + ")", scene, ARGUMENT, x -> x.put(word), 19, 0);
        }
    }

    /** Promise 2: "IllegalStateException: there are 30" */
    private void putBehindThirty(Scene scene) {
        int[] thirty = new int[30];
        Arrays.fill(thirty, 2);
        for (int word : new int[] {0, 1, 2, 6, 253}) {
            refused("put(" + word + ")", scene, STATE, x -> x.put(word), thirty);
        }
        int[] less = Arrays.copyOf(thirty, 29);
        GoalEngine x = typed(scene, less);
        check.due("put behind 29, " + scene.name, 30, () -> x.put(6));
        check.dueThrow("put behind 30, " + scene.name, STATE, () -> x.put(6));
        check.due("ask, " + scene.name, 0, x::ask);
        check.due("thirty goals, " + scene.name, 30, () -> x.count(2));
        check.due("put after ask, " + scene.name, 1, () -> x.put(6));
    }

    private static final int[][] NO_GOALS = {{}, {0}, {9}, {3}, {19, 6}, {19, 0, 1}, {2, 4, 1}, {6, 0}};
    private static final int[][] QUESTIONS_ONLY = {{6}, {6, 2}, {194}, {195, 1}, {196, 1, 1}, {197, 1, 1, 1}, {250}};

    /** Promise 3: "there is a search that is not over (then what is typed stays)", be it a rule or not. */
    private void ruleDuringASearch(Scene scene) {
        refused("rule", scene, STATE, GoalEngine::rule, 19, 0);
        refused("rule", scene, STATE, GoalEngine::rule, 34, 19, 0);
        for (int[] row : NO_GOALS) {
            refused("rule", scene, STATE, GoalEngine::rule, row);
        }
        for (int[] row : QUESTIONS_ONLY) {
            refused("rule", scene, STATE, GoalEngine::rule, row);
        }
    }

    /** Promise 3: "it is no rule (then nothing is typed any more)" */
    private void noRule(Scene scene) {
        for (int[] row : NO_GOALS) {
            refusedWithWhatIsTyped("rule", scene, GoalEngine::rule, row);
        }
        for (int[] row : QUESTIONS_ONLY) {
            refusedWithWhatIsTyped("rule", scene, GoalEngine::rule, row);
        }
    }

    /** Promise 4: "it is no question (then, too, nothing is typed any more; a search that there was stays)" */
    private void noQuestion(Scene scene) {
        for (int[] row : NO_GOALS) {
            refusedWithWhatIsTyped("ask", scene, GoalEngine::ask, row);
        }
    }

    /** Promise 5: "IllegalArgumentException: steps is not 1 .. 20", whatever the search is. */
    private void wrongSteps(Scene scene) {
        for (int steps : new int[] {0, 21, -1, 22, Integer.MIN_VALUE, Integer.MAX_VALUE}) {
            refused("solve(" + steps + ")", scene, ARGUMENT, x -> x.solve(steps), 2);
        }
    }

    /** Promise 5: "IllegalStateException: there is no search, it is over, or has an answer already" */
    private void solveWithoutASearch(Scene scene) {
        for (int steps : new int[] {1, 20}) {
            refused("solve(" + steps + ")", scene, STATE, x -> x.solve(steps), 2);
        }
    }

    /** Promise 6: "IllegalStateException: there is no answer" */
    private void nextWithoutAnAnswer(Scene scene) {
        refused("next", scene, STATE, x -> x.next() ? 1 : 0, 2);
    }

    /** Promise 9: "IllegalArgumentException: any other number" */
    private void wrongCount(Scene scene) {
        for (int which : new int[] {-1, 7, 8, Integer.MIN_VALUE, Integer.MAX_VALUE}) {
            refused("count(" + which + ")", scene, ARGUMENT, x -> x.count(which), 2);
        }
        for (int which = 0; which <= 6; which++) {
            int w = which;
            check.dueTrue("count(" + w + "), " + scene.name, scene.made.get().count(w) >= 0);
        }
    }

    /** Promise 11: "IndexOutOfBoundsException: there is none" */
    private void noSuchWord(Scene scene) {
        int words = scene.made.get().words();
        for (int i : new int[] {-1, words, words + 1, 90, Integer.MIN_VALUE, Integer.MAX_VALUE}) {
            refused("word(" + i + ")", scene, INDEX, x -> x.word(i), 2);
        }
        if (words > 0) {
            check.dueTrue("the last word, " + scene.name, Talk.answer(scene.made.get()).endsWith(
                    Integer.toString(scene.made.get().word(words - 1))));
        }
    }

    /** Promise 3: "IllegalStateException: there are 16": what is typed stays, be it a rule or not. */
    private void sixteenRules() {
        Scene full = new Scene("16 rules", Search.OVER, () -> {
            String[] rules = Arrays.copyOf(RULES, 16);
            Arrays.fill(rules, RULES.length, 16, "n8");
            return Talk.engineWith(rules);
        });
        ruleDuringASearch(full);
        noQuestion(full);
        Scene both = new Scene("16 rules and a search", Search.RUNNING, () -> {
            GoalEngine x = full.made.get();
            Talk.ask(x, "n2(A)");
            return x;
        });
        ruleDuringASearch(both);
        GoalEngine x = Talk.engineWith(RULES);
        for (int i = RULES.length + 1; i <= 16; i++) {
            int due = i;
            check.due("rule number " + i, due, () -> Talk.rule(x, "n8"));
        }
        check.dueThrow("rule number 17", STATE, () -> Talk.rule(x, "n8"));
    }

    /** Promise 7 and 8: what is never refused, and what it leaves when there is no search or it is over. */
    private void neverRefused(Scene scene) {
        GoalEngine x = typed(scene, 19, 0);
        int tank = x.count(3);
        int rules = x.count(4);
        int collections = x.count(6);
        int cells = x.count(0);
        int freed = x.collect();
        boolean open = scene.search != Search.OVER;
        check.due("collect, " + scene.name, cells - freed, () -> x.count(0));
        check.due("collections, " + scene.name, collections + (open ? 1 : 0), () -> x.count(6));
        if (!open) {
            check.due("freed, " + scene.name, "0", "" + freed);
        }
        x.stop();
        check.due("stop, " + scene.name, "0 0 0 " + tank + " " + rules + " 2 " + (collections + (open ? 1 : 0)) + " | ",
                Talk.state(x));
        check.due("collect then, " + scene.name, 0, x::collect);
        check.dueThrow("solve then, " + scene.name, STATE, () -> x.solve(1));
        check.dueThrow("next then, " + scene.name, STATE, () -> x.next() ? 1 : 0);
        check.due("rule then, " + scene.name, rules + 1, x::rule);
    }

    /** Promise 3 and 4: "a search that has an answer is not over", and a question may come at any time. */
    private void askAtAnyTime(Scene scene) {
        GoalEngine x = typed(scene, 19, 0);
        int tank = x.count(3);
        int rules = x.count(4);
        int collections = x.count(6);
        check.due("ask, " + scene.name, 3, x::ask);
        check.due("begun, " + scene.name, "3 0 1 " + tank + " " + rules + " 0 " + collections + " | ", Talk.state(x));
        check.due("the first rule is tried, " + scene.name, tank == 0 ? 2 : rules == 0 ? 0 : 1, () -> x.solve(1));
    }

    private void lookAt(Scene scene) {
        putOfNoWord(scene);
        putBehindThirty(scene);
        noQuestion(scene);
        wrongSteps(scene);
        wrongCount(scene);
        noSuchWord(scene);
        neverRefused(scene);
        askAtAnyTime(scene);
        if (scene.search == Search.OVER) {
            noRule(scene);
        } else {
            ruleDuringASearch(scene);
        }
        if (scene.search != Search.RUNNING) {
            solveWithoutASearch(scene);
        }
        if (scene.search != Search.ANSWERED) {
            nextWithoutAnAnswer(scene);
        }
    }

    public static void main(String[] args) {
        RefusedCallsTest test = new RefusedCallsTest();
        for (Scene scene : SCENES) {
            test.lookAt(scene);
        }
        test.sixteenRules();
        test.check.end();
    }
}
