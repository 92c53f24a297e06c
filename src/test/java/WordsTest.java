import java.util.Arrays;

/** The section Terms, what is typed: the limits of words, and what is a term, a goal, a rule and a question. */
public final class WordsTest {
    private static final Class<IllegalArgumentException> ARGUMENT = IllegalArgumentException.class;
    private static final int VARIABLE = 0;
    private static final int NUMBER = 1;
    private static final int CUT = 6;
    private final Check check = new Check();

    private static int word(int kind, int value) {
        return 8 * value + kind;
    }

    private void goes(int word) {
        GoalEngine x = new GoalEngine();
        check.due("put(" + word + ")", 1, () -> x.put(word));
        check.due("typed after put(" + word + ")", 1, () -> x.count(5));
        check.due("a second put(" + word + ")", 2, () -> x.put(word));
    }

    private void isNone(int word) {
        GoalEngine x = new GoalEngine();
        check.dueThrow("put(" + word + ")", ARGUMENT, () -> x.put(word));
        check.due("typed after put(" + word + ")", 0, () -> x.count(5));
        check.due("put(2) after put(" + word + ")", 1, () -> x.put(2));
    }

    /** "0 VARIABLE (value 0 .. 7)" */
    private void valuesOfVariables() {
        for (int value = 0; value <= 7; value++) {
            goes(word(VARIABLE, value));
        }
        for (int value : new int[] {-1, 8, -8, 32, -(1 << 28), (1 << 28) - 1}) {
            isNone(word(VARIABLE, value));
        }
    }

    /** "1 NUMBER (any value, -2^28 .. 2^28 - 1)": all that an int has beside its kind. */
    private void valuesOfNumbers() {
        for (int value : new int[] {0, 1, -1, 7, 8, 31, 32, -(1 << 28), -(1 << 28) + 1, (1 << 28) - 1, (1 << 28) - 2}) {
            goes(word(NUMBER, value));
            GoalEngine x = Talk.engineWith("n2(" + value + ")");
            Talk.ask(x, "n2(A)");
            check.due("n2(" + value + ")", 1, () -> x.solve(1));
            check.due("the number " + value, word(NUMBER, value), () -> x.word(0));
        }
        goes(Integer.MIN_VALUE + 1);
        goes(Integer.MAX_VALUE - 6);
    }

    /** "2, 3, 4, 5 NAME (value 0 .. 31) with 0, 1, 2, 3 ARGUMENTS" */
    private void valuesOfNames() {
        for (int kind = 2; kind <= 5; kind++) {
            for (int value = 0; value <= 31; value++) {
                goes(word(kind, value));
            }
            for (int value : new int[] {-1, 32, -32, 33, -(1 << 28), (1 << 28) - 1}) {
                isNone(word(kind, value));
            }
        }
    }

    /** "6 CUT (value 0)" */
    private void valueOfTheCut() {
        goes(CUT);
        for (int value : new int[] {-1, 1, 7, 31, -(1 << 28), (1 << 28) - 1}) {
            isNone(word(CUT, value));
        }
    }

    /** "Kinds: 0 .. 6": a word of the kind 7 is none. */
    private void kindSeven() {
        for (int value : new int[] {0, -1, 1, 7, 31, 32, -(1 << 28), (1 << 28) - 1}) {
            isNone(word(7, value));
        }
    }

    private static int typed(GoalEngine x, boolean asRule, int... words) {
        for (int word : words) {
            x.put(word);
        }
        return asRule ? x.rule() : x.ask();
    }

    private void isQuestion(int... words) {
        GoalEngine x = new GoalEngine();
        String told = "ask " + Arrays.toString(words);
        check.dueTrue(told, typed(x, false, words) >= 0);
        check.dueTrue(told + ": goals at hand", x.count(2) > 0);
        check.due(told + ": nothing typed", 0, () -> x.count(5));
    }

    private void isNoQuestion(int... words) {
        GoalEngine x = new GoalEngine();
        String told = "ask " + Arrays.toString(words);
        check.dueThrow(told, ARGUMENT, () -> typed(x, false, words));
        check.due(told + ": no goals at hand", 0, () -> x.count(2));
        check.due(told + ": nothing typed", 0, () -> x.count(5));
        check.dueThrow(told + ": no search", IllegalStateException.class, () -> x.solve(1));
    }

    private void isRule(int... words) {
        GoalEngine x = new GoalEngine();
        String told = "rule " + Arrays.toString(words);
        check.due(told, 1, () -> typed(x, true, words));
        check.due(told + ": rules", 1, () -> x.count(4));
        check.due(told + ": nothing typed", 0, () -> x.count(5));
    }

    private void isNoRule(int... words) {
        GoalEngine x = new GoalEngine();
        String told = "rule " + Arrays.toString(words);
        check.dueThrow(told, ARGUMENT, () -> typed(x, true, words));
        check.due(told + ": rules", 0, () -> x.count(4));
        check.due(told + ": nothing typed", 0, () -> x.count(5));
        check.due(told + ": the next rule is the first", 1, () -> typed(x, true, 2));
    }

    /** "a name and then the terms that are its arguments": one too few, just so many, one too many. */
    private void argumentsOfNames() {
        for (int arguments = 0; arguments <= 3; arguments++) {
            for (int given = 0; given <= 4; given++) {
                int[] row = new int[1 + given];
                Arrays.fill(row, word(NUMBER, 5));
                row[0] = word(2 + arguments, 9);
                if (given == arguments) {
                    isQuestion(row);
                    isRule(row);
                } else {
                    isNoQuestion(row);
                    isNoRule(row);
                }
            }
        }
    }

    /** The same for a name that is an argument. */
    private void argumentsInside() {
        isQuestion(3, 4, 1, 0);
        isNoQuestion(3, 4, 1);
        isNoQuestion(3, 4);
        isNoQuestion(3, 4, 1, 0, 1);
        isQuestion(4, 5, 1, 0, 2, 3, 1);
        isNoQuestion(4, 5, 1, 0, 2, 3);
        isNoQuestion(4, 5, 1, 0, 2);
        isRule(3, 4, 1, 0);
        isNoRule(3, 4, 1);
        isNoRule(2, 3, 4, 1);
        isRule(2, 3, 4, 1, 0);
    }

    /** "A TERM is a variable, a number, or a name": a cut is none. */
    private void cutsAreNoTerms() {
        isNoQuestion(3, CUT);
        isNoQuestion(4, 1, CUT);
        isNoQuestion(4, CUT, 1);
        isNoQuestion(3, 3, CUT);
        isNoRule(3, CUT);
        isNoRule(2, 3, CUT);
    }

    /** "A GOAL is a name's term, or a cut": a variable and a number are none, in whichever place. */
    private void goals() {
        isQuestion(CUT);
        isQuestion(2);
        isQuestion(CUT, CUT, 2);
        isNoQuestion(0);
        isNoQuestion(1);
        isNoQuestion(2, 0);
        isNoQuestion(2, 1);
        isNoQuestion(0, 2);
        isNoQuestion(CUT, 56);
        isNoQuestion(3, 1, 0, 2);
        isNoRule(0);
        isNoRule(1);
        isNoRule(2, 0);
        isNoRule(2, 1);
        isNoRule(2, CUT, 0);
    }

    /** "a goal that is no cut, its HEAD, whose name is less than 24" */
    private void heads() {
        int[][] arguments = {{}, {0}, {0, 1}, {0, 1, 2}};
        for (int[] row : arguments) {
            for (int name = 0; name <= 31; name++) {
                int[] head = new int[1 + row.length];
                head[0] = word(2 + row.length, name);
                System.arraycopy(row, 0, head, 1, row.length);
                if (name < 24) {
                    isRule(head);
                } else {
                    isNoRule(head);
                }
                isQuestion(head);
            }
        }
        isNoRule(CUT);
        isNoRule(CUT, 2);
    }

    /** "and then any goals, its BODY": none, cuts, names that are no heads, and as many as can be typed. */
    private void bodies() {
        isRule(2);
        isRule(2, CUT);
        isRule(2, CUT, CUT, 2);
        isRule(2, word(2, 24), word(2, 31));
        isRule(2, word(4, 24), 0, 1, word(4, 31), 0, 1);
        int[] longest = new int[30];
        Arrays.fill(longest, 2);
        isRule(longest);
    }

    /** "A QUESTION is one goal or more" */
    private void questions() {
        isNoQuestion();
        isNoRule();
        for (int many = 1; many <= 30; many++) {
            int[] row = new int[many];
            Arrays.fill(row, 2);
            GoalEngine x = new GoalEngine();
            typed(x, false, row);
            check.due("goals of a question", many, () -> x.count(2));
        }
    }

    /** "There are at most 16 rules": the sixteenth still answers. */
    private void sixteenRules() {
        GoalEngine x = new GoalEngine();
        for (int i = 1; i <= 16; i++) {
            String rule = "n2(" + i + ")";
            check.due("rule number " + i, i, () -> Talk.rule(x, rule));
        }
        check.dueThrow("the seventeenth", IllegalStateException.class, () -> Talk.rule(x, "n2(17)"));
        check.due("sixteen stay", 16, () -> x.count(4));
        check.due("what is typed stays", 2, () -> x.count(5));
        check.due("and can be asked", 2, x::ask);
        check.due("but is no rule", 0, () -> Talk.steps(x, 20));
        Talk.ask(x, "n2(16)");
        check.due("the last rule", 1, () -> Talk.steps(x, 20));
    }

    /** "SAME, IS, LESS, EQUAL: names with two arguments"; with others, and from 28 on, they mean nothing as goals. */
    private void namesThatMeanSomething() {
        String[] holding = {"n24(1,1)", "n25(1,1)", "n26(1,2)", "n27(1,1)"};
        for (String goal : holding) {
            check.due(goal, 1, () -> Talk.outcome(new GoalEngine(), goal));
        }
        for (int name = 24; name <= 31; name++) {
            for (String arguments : new String[] {"", "(1)", "(1,1,1)", "(1,2,1)"}) {
                String goal = "n" + name + arguments;
                check.due(goal, 0, () -> Talk.outcome(new GoalEngine(), goal));
            }
        }
        for (int name = 28; name <= 31; name++) {
            String goal = "n" + name + "(1,1)";
            check.due(goal, 0, () -> Talk.outcome(new GoalEngine(), goal));
        }
        check.due("23 is a name like others", 1, () -> Talk.outcome(Talk.engineWith("n23(1,2)"), "n23(1,2)"));
        check.due("and fails without a rule", 0, () -> Talk.outcome(new GoalEngine(), "n23(1,1)"));
    }

    public static void main(String[] args) {
        WordsTest test = new WordsTest();
        test.valuesOfVariables();
        test.valuesOfNumbers();
        test.valuesOfNames();
        test.valueOfTheCut();
        test.kindSeven();
        test.argumentsOfNames();
        test.argumentsInside();
        test.cutsAreNoTerms();
        test.goals();
        test.heads();
        test.bodies();
        test.questions();
        test.sixteenRules();
        test.namesThatMeanSomething();
        test.check.end();
    }
}
