/** Promises 1 to 4: a new object, put, rule and ask. */
public final class TypingTest {
    private static final Class<IllegalArgumentException> ARGUMENT = IllegalArgumentException.class;
    private static final Class<IllegalStateException> STATE = IllegalStateException.class;
    private final Check check = new Check();

    private void newObject() {
        GoalEngine x = new GoalEngine();
        int[] due = {0, 0, 0, 300, 0, 0, 0};
        for (int i = 0; i < due.length; i++) {
            int which = i;
            check.due("new: count(" + i + ")", due[i], () -> x.count(which));
        }
        check.due("new: words()", 0, x::words);
        check.due("new: collect()", 0, x::collect);
        check.dueThrow("new: word(0)", IndexOutOfBoundsException.class, () -> x.word(0));
        check.dueThrow("new: solve(1)", STATE, () -> x.solve(1));
        check.dueThrow("new: next()", STATE, () -> x.next() ? 1 : 0);
        x.stop();
        check.dueThrow("new and stopped: solve(1)", STATE, () -> x.solve(1));
    }

    private void thirtyWords() {
        GoalEngine x = new GoalEngine();
        for (int i = 1; i <= 30; i++) {
            check.due("put number " + i, i, () -> x.put(2));
        }
        check.dueThrow("put one more", STATE, () -> x.put(2));
        check.dueThrow("put none, with no place", ARGUMENT, () -> x.put(7));
        check.due("thirty stay", 30, () -> x.count(5));
        check.due("thirty goals", 0, x::ask);
        check.due("thirty at hand", 30, () -> x.count(2));
    }

    private void rulesThatAre() {
        String[] rules = {"n0", "n23", "n23(1,A,nil)", "n2(A),!", "n2,!,!", "n2,sum(1,2)", "n2,n31", "n2(n31(A))"};
        GoalEngine x = new GoalEngine();
        for (int i = 0; i < rules.length; i++) {
            String rule = rules[i];
            check.due("rule " + rule, i + 1, () -> Talk.rule(x, rule));
            check.due("nothing typed after " + rule, 0, () -> x.count(5));
        }
        check.due("rules", rules.length, () -> x.count(4));
    }

    private void sixteenRules() {
        GoalEngine x = new GoalEngine();
        for (int i = 1; i <= 16; i++) {
            check.due("rule number " + i, i, () -> Talk.rule(x, "n2"));
        }
        check.dueThrow("one rule more", STATE, () -> Talk.rule(x, "n3"));
        check.due("what is typed stays", 1, () -> x.count(5));
        x.put(0);
        check.dueThrow("no rule, with no place", STATE, x::rule);
        check.due("that stays, too", 2, () -> x.count(5));
        check.due("sixteen", 16, () -> x.count(4));
    }

    private void rulesDuringASearch() {
        GoalEngine x = Talk.engineWith("n2");
        Talk.ask(x, "n2");
        check.dueThrow("rule during a search", STATE, () -> Talk.rule(x, "n3"));
        check.due("typed stays", 1, () -> x.count(5));
        check.due("answer", 1, () -> x.solve(1));
        check.dueThrow("rule when there is an answer", STATE, x::rule);
        check.due("over", 0, () -> x.next() ? 1 : 0);
        check.due("rule when it is over", 2, x::rule);
        Talk.ask(x, "n3");
        x.stop();
        check.due("rule when it is stopped", 3, () -> Talk.rule(x, "n4"));
    }

    private void asking() {
        GoalEngine x = Talk.engineWith("n2(1)", "n2(2)");
        check.due("ask", 3, () -> Talk.ask(x, "n2(A)"));
        check.due("nothing typed", 0, () -> x.count(5));
        check.due("an answer", 1, () -> x.solve(5));
        check.dueThrow("ask a number", ARGUMENT, () -> Talk.ask(x, "5"));
        check.due("nothing typed then", 0, () -> x.count(5));
        check.due("the search stays", Talk.row("1"), Talk.answer(x));
        check.due("with its choice", 1, () -> x.count(1));
        check.due("ask another question", 5, () -> Talk.ask(x, "n2(B),n3(2)"));
        check.due("the other one is forgotten: choices", 0, () -> x.count(1));
        check.due("goals", 2, () -> x.count(2));
        check.due("words", 0, x::words);
        check.due("its first try", 2, () -> x.solve(1));
        x.stop();
        check.due("ask again", 3, () -> Talk.ask(x, "n2(A)"));
        check.due("an answer again", 1, () -> x.solve(1));
    }

    private void askingForgetsTheRuleThatIsNext() {
        GoalEngine x = Talk.engineWith("n2(1)", "n2(2)");
        Talk.ask(x, "n2(A)");
        x.solve(1);
        x.next();
        Talk.ask(x, "n2(A)");
        check.due("an answer", 1, () -> x.solve(1));
        check.due("by the first rule", Talk.row("1"), Talk.answer(x));
    }

    public static void main(String[] args) {
        TypingTest test = new TypingTest();
        test.newObject();
        test.thirtyWords();
        test.rulesThatAre();
        test.sixteenRules();
        test.rulesDuringASearch();
        test.asking();
        test.askingForgetsTheRuleThatIsNext();
        test.check.end();
    }
}
