/** Promises 5 to 7: solve, next and stop, in longer runs. */
public final class SolvingTest {
    private static final Class<IllegalStateException> STATE = IllegalStateException.class;
    private final Check check = new Check();

    private void yes(String question, String... rules) {
        check.due(question, 1, () -> Talk.outcome(Talk.engineWith(rules), question));
    }

    private void no(String question, String... rules) {
        check.due(question, 0, () -> Talk.outcome(Talk.engineWith(rules), question));
    }

    private void gives(String question, String answer, String... rules) {
        GoalEngine x = Talk.engineWith(rules);
        check.due(question, 1, () -> Talk.outcome(x, question));
        check.due(question, Talk.row(answer), Talk.answer(x));
    }

    private void steps() {
        GoalEngine x = Talk.engineWith("n2");
        for (int steps : new int[] {0, -1, 21, Integer.MIN_VALUE, Integer.MAX_VALUE}) {
            check.dueThrow("solve(" + steps + ")", IllegalArgumentException.class, () -> x.solve(steps));
        }
        check.dueThrow("solve without a search", STATE, () -> x.solve(1));
        Talk.ask(x, "n2,n2,n2");
        check.dueThrow("solve(0) in a search", IllegalArgumentException.class, () -> x.solve(0));
        check.due("one step", 2, () -> x.solve(1));
        check.due("two goals left", 2, () -> x.count(2));
        check.due("tank", 299, () -> x.count(3));
        check.due("no more steps than are needed", 1, () -> x.solve(20));
        check.due("tank", 297, () -> x.count(3));
        check.dueThrow("solve with an answer", STATE, () -> x.solve(1));
        check.dueThrow("but first the number", IllegalArgumentException.class, () -> x.solve(21));
        check.due("tank untouched", 297, () -> x.count(3));
        Talk.ask(x, "n2,n3");
        check.due("over", 0, () -> x.solve(20));
        check.due("a step that fails takes one, too", 295, () -> x.count(3));
        check.dueThrow("solve when it is over", STATE, () -> x.solve(1));
    }

    private void otherWays() {
        GoalEngine x = Talk.engineWith("n2(1)", "n3(7)", "n2(2)", "n2(3)");
        Talk.ask(x, "n2(A)");
        check.dueThrow("next before an answer", STATE, () -> x.next() ? 1 : 0);
        for (int i = 1; i <= 3; i++) {
            int number = i;
            check.due("answer " + i, 1, () -> x.solve(20));
            check.due("answer " + i, Talk.row("" + i), Talk.answer(x));
            check.due("choices", number < 3 ? 1 : 0, () -> x.count(1));
            check.due("tank", 300 - number, () -> x.count(3));
            check.due("next", number < 3 ? 1 : 0, () -> x.next() ? 1 : 0);
            check.due("choices, after next", 0, () -> x.count(1));
            check.due("goals, after next", number < 3 ? 1 : 0, () -> x.count(2));
            check.due("cells, after next", number < 3 ? 3 : 0, () -> x.count(0));
            check.due("words, after next", 0, x::words);
            check.due("next takes no step", 300 - number, () -> x.count(3));
        }
        check.dueThrow("next when it is over", STATE, () -> x.next() ? 1 : 0);
        check.dueThrow("solve when it is over", STATE, () -> x.solve(1));
    }

    private void bindingsAreUndone() {
        gives("n2(A,B),same(A,2)", "2,n3(A)", "n2(1,n4)", "n2(A,n3(B))");
        gives("same(A,n3(B)),n2(B),less(1,B)", "n3(2),2", "n2(1)", "n2(2)");
        gives("n2(A),n2(B),less(B,A)", "2,1", "n2(1)", "n2(2)");
        gives("n2(n4(A,B),C)", "A,B,2", "n2(n4(1,nil),1),n9", "n2(A,2)");
    }

    private void goalsGoInOrder() {
        GoalEngine x = Talk.engineWith("n2(A,B),n3(A),n4(B)", "n3(1)", "n3(2)", "n4(5)", "n4(6)");
        Talk.ask(x, "n2(A,B)");
        StringBuilder got = new StringBuilder();
        for (int i = 0; i < 4; i++) {
            x.solve(20);
            got.append(Talk.answer(x)).append(';');
            x.next();
        }
        check.due("all ways", "9 41;9 49;17 41;17 49;", got.toString());
    }

    private void cuts() {
        GoalEngine x = Talk.engineWith("n2(A),n3(A),!", "n2(9)", "n3(1)", "n3(2)", "n4(1)", "n4(2)");
        Talk.ask(x, "n4(A),n2(B)");
        check.due("first answer", 1, () -> x.solve(20));
        check.due("choices older than the rule stay", 1, () -> x.count(1));
        check.due("next", 1, () -> x.next() ? 1 : 0);
        check.due("second answer", 1, () -> x.solve(20));
        check.due("second answer", Talk.row("2,1"), Talk.answer(x));
        check.due("no choice", 0, () -> x.count(1));
        check.due("no other", 0, () -> x.next() ? 1 : 0);
        check.due("a cut in the question", 1, () -> Talk.outcome(x, "n4(A),n3(B),!"));
        check.due("gives up all", 0, () -> x.count(1));
        no("n4(A),!,less(1,A)", "n4(1)", "n4(2)");
        yes("!");
        yes("n2(2)", "n2(A),n5,!,same(A,1)", "n2(2)", "n2(3),n5");
        no("n2(2)", "n2(A),!,same(A,1)", "n2(2)");
        // The cut of the first rule for n2 comes when the search has fewer choices than before, and gives up none.
        gives("n6(A),n2(B),less(1,A)", "2,1", "n6(1)", "n6(2)", "n2(1),!,!");
        // A goal that a choice brings back keeps its height.
        gives("n6(A),n2(B),less(1,B)", "1,2", "n6(1)", "n6(2)", "n2(A),n7(A,B),!,n8(A)", "n2(5)", "n7(1,1),n9",
                "n7(2,1)", "n8(2),n6(2),!");
    }

    private void stopping() {
        GoalEngine x = Talk.engineWith("n2(1)", "n2(2)");
        x.stop();
        check.dueThrow("no search", STATE, () -> x.solve(1));
        Talk.ask(x, "n2(A)");
        x.solve(1);
        x.stop();
        check.due("no words", 0, x::words);
        check.dueThrow("no next", STATE, () -> x.next() ? 1 : 0);
        check.dueThrow("no solve", STATE, () -> x.solve(1));
        for (int i = 0; i <= 2; i++) {
            int which = i;
            check.due("count(" + i + ")", 0, () -> x.count(which));
        }
        check.due("tank", 299, () -> x.count(3));
        Talk.ask(x, "n2(A),n2(B),n2(C)");
        x.solve(1);
        x.stop();
        check.due("no choices", 0, () -> x.count(1));
        check.due("no goals", 0, () -> x.count(2));
        x.put(2);
        x.stop();
        check.due("what is typed stays", 1, () -> x.count(5));
        check.due("rules stay", 2, () -> x.count(4));
    }

    /** The most goals that can ever be at hand: 29 for one, at each step of a full tank. */
    private void manyGoals() {
        StringBuilder rule = new StringBuilder("n2");
        for (int i = 0; i < 29; i++) {
            rule.append(",n2");
        }
        GoalEngine x = Talk.engineWith(rule.toString(), "n2");
        Talk.ask(x, rule.toString());
        for (int i = 0; i < 15; i++) {
            check.due("goes on", 2, () -> x.solve(20));
        }
        check.due("goals", 30 + 300 * 28, () -> x.count(2));
        check.due("choices", 300, () -> x.count(1));
        check.due("collect", 0, x::collect);
        check.due("goals", 30 + 300 * 28, () -> x.count(2));
    }

    public static void main(String[] args) {
        SolvingTest test = new SolvingTest();
        test.steps();
        test.otherWays();
        test.bindingsAreUndone();
        test.goalsGoInOrder();
        test.cuts();
        test.stopping();
        test.manyGoals();
        test.check.end();
    }
}
