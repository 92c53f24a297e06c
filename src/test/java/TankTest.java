/** The section Terms, the tank: 300 steps, what takes one, that nothing fills it, and what goes on when it is empty. */
public final class TankTest {
    private static final Class<IllegalStateException> STATE = IllegalStateException.class;
    private static final Class<UnsupportedOperationException> LIMIT = UnsupportedOperationException.class;
    private final Check check = new Check();

    /** n2 goes on without end in no cells; the others end in one step each, in all the ways that there are. */
    private static final String[] RULES = {"n2,n2", "n3", "n4(1)", "n4(2)", "n5(A),n5(n6(A))"};

    private static GoalEngine withStepsLeft(int left) {
        GoalEngine x = Talk.engineWith(RULES);
        Talk.ask(x, "n2");
        Talk.steps(x, 300 - left);
        return x;
    }

    private void fullAtFirst() {
        check.due("a new object", 300, () -> new GoalEngine().count(3));
        check.due("with rules", 300, () -> Talk.engineWith(RULES).count(3));
        GoalEngine x = Talk.engineWith(RULES);
        Talk.ask(x, "n2");
        check.due("with a question", 300, () -> x.count(3));
    }

    /** "At most so many steps" */
    private void asManyAsAreSaid() {
        for (int steps = 1; steps <= 20; steps++) {
            int said = steps;
            GoalEngine x = Talk.engineWith(RULES);
            Talk.ask(x, "n2");
            check.due("solve(" + said + ")", 2, () -> x.solve(said));
            check.due("tank after solve(" + said + ")", 300 - said, () -> x.count(3));
        }
    }

    private void takes(String question, int steps, String due) {
        GoalEngine x = Talk.engineWith(RULES);
        Talk.ask(x, question);
        check.due(question, due, Check.answerOf(() -> x.solve(20)));
        check.due(question + ": tank", 300 - steps, () -> x.count(3));
    }

    /** "no answer is there and the search is not over": no step more is taken than leads there. */
    private void noMoreThanAreNeeded() {
        takes("n3", 1, "1");
        takes("n3,n3,n3", 3, "1");
        takes("!", 1, "1");
        takes("same(1,1)", 1, "1");
        takes("n4(A)", 1, "1");
        takes("n4(3)", 2, "0");
    }

    /** "a step that is begun takes one", also if it fails or throws. */
    private void stepsThatEndTheSearch() {
        takes("n9", 1, "0");
        takes("n3,n9,n3", 2, "0");
        takes("same(1,2)", 1, "0");
        takes("less(2,1),n3", 1, "0");
        takes("is(A,B)", 1, "ArithmeticException");
        takes("n3,is(A,quot(1,0)),n3", 2, "ArithmeticException");
        GoalEngine x = Talk.engineWith(RULES);
        Talk.ask(x, "n5(1)");
        check.due("78 have room", 2, () -> Talk.steps(x, 78));
        check.dueThrow("the next one has none", LIMIT, () -> x.solve(20));
        check.due("but took a step", 300 - 79, () -> x.count(3));
    }

    private void tooMuchTakesAStep() {
        GoalEngine x = Talk.engineWith("n2(A,n7(A,A))");
        Talk.ask(x, "n2(0,A),n2(A,B),n2(B,C),n2(C,D),n2(D,E),n2(E,F),n2(F,G),n2(G,H),same(H,H)");
        check.dueThrow("511 pairs", LIMIT, () -> x.solve(20));
        check.due("nine steps", 300 - 9, () -> x.count(3));
    }

    /** "Nothing fills it again, no question either." */
    private void nothingFillsIt() {
        GoalEngine x = Talk.engineWith(RULES);
        Talk.ask(x, "n4(A)");
        x.solve(1);
        x.next();
        check.due("next", 299, () -> x.count(3));
        x.collect();
        check.due("collect", 299, () -> x.count(3));
        x.solve(1);
        x.next();
        check.due("over", 298, () -> x.count(3));
        x.stop();
        check.due("stop", 298, () -> x.count(3));
        Talk.rule(x, "n7");
        check.due("rule", 298, () -> x.count(3));
        Talk.ask(x, "n7");
        check.due("ask", 298, () -> x.count(3));
        Talk.ask(x, "n3");
        check.due("ask again", 298, () -> x.count(3));
        check.dueThrow("no question", IllegalArgumentException.class, () -> Talk.ask(x, "1"));
        check.due("nor that", 298, () -> x.count(3));
    }

    /** Of 300 steps the last one is taken, and no other after it. */
    private void threeHundredSteps() {
        GoalEngine x = Talk.engineWith(RULES);
        Talk.ask(x, "n2");
        for (int left = 299; left >= 0; left--) {
            check.due("goes on", 2, () -> x.solve(1));
            if (left % 20 == 0 || left < 5) {
                check.due("tank", left, () -> x.count(3));
            }
        }
        String before = Talk.state(x);
        check.due("step 301", 2, () -> x.solve(1));
        check.due("was none", before, Talk.state(x));
    }

    private void lastStep(String question, String due) {
        GoalEngine x = withStepsLeft(1);
        Talk.ask(x, question);
        check.due("last step: " + question, due, Check.answerOf(() -> x.solve(20)));
        check.due("tank: " + question, 0, () -> x.count(3));
    }

    /** The 300th step counts like any other: what it leads to is answered, even though the tank is empty then. */
    private void whatTheLastStepLeadsTo() {
        lastStep("n3", "1");
        lastStep("n3,n3", "2");
        lastStep("n9", "0");
        lastStep("n4(2)", "2");
        lastStep("is(A,B)", "ArithmeticException");
        GoalEngine x = withStepsLeft(79);
        Talk.ask(x, "n5(1)");
        Talk.steps(x, 78);
        check.due("one step left", 1, () -> x.count(3));
        check.dueThrow("no room in the last step", LIMIT, () -> x.solve(20));
        check.due("none left", 0, () -> x.count(3));
    }

    /** Fewer steps than are said, if the tank has fewer. */
    private void theTankEndsInTheMiddle() {
        GoalEngine x = withStepsLeft(2);
        Talk.ask(x, "n3,n3,n3");
        check.due("two steps of three", 2, () -> x.solve(3));
        check.due("one goal left", 1, () -> x.count(2));
        check.due("empty", 0, () -> x.count(3));
        GoalEngine y = withStepsLeft(3);
        Talk.ask(y, "n3,n3,n3");
        check.due("three steps of twenty", 1, () -> y.solve(20));
        check.due("empty", 0, () -> y.count(3));
    }

    /** "when the tank is empty it is 2": and nothing moves. */
    private void emptyTank() {
        GoalEngine x = withStepsLeft(0);
        check.due("ask", 3, () -> Talk.ask(x, "n4(A),n3"));
        String before = Talk.state(x);
        for (int steps : new int[] {1, 20, 1}) {
            check.due("solve(" + steps + ")", 2, () -> x.solve(steps));
            check.due("nothing moved", before, Talk.state(x));
        }
        check.dueThrow("solve(0)", IllegalArgumentException.class, () -> x.solve(0));
        check.dueThrow("solve(21)", IllegalArgumentException.class, () -> x.solve(21));
        check.dueThrow("next", STATE, () -> x.next() ? 1 : 0);
        check.dueThrow("rule: it is not over", STATE, () -> Talk.rule(x, "n7"));
        check.due("collect", 0, x::collect);
        check.due("a collection all the same", 1, () -> x.count(6));
        x.stop();
        check.dueThrow("solve when it is over", STATE, () -> x.solve(1));
        check.due("rule when it is over", RULES.length + 1, x::rule);
    }

    /** An answer that came with the last step can be left; the rule that is next is not tried any more. */
    private void nextWithAnEmptyTank() {
        GoalEngine x = withStepsLeft(1);
        Talk.ask(x, "n4(A)");
        check.due("answer", 1, () -> x.solve(1));
        check.dueThrow("solve: it has an answer", STATE, () -> x.solve(1));
        check.due("the answer", Talk.row("1"), Talk.answer(x));
        check.due("next", 1, () -> x.next() ? 1 : 0);
        check.due("no step for the other rule", 2, () -> x.solve(20));
        check.due("its goal is at hand", 1, () -> x.count(2));
        check.due("no answer", 0, x::words);
        GoalEngine y = withStepsLeft(1);
        Talk.ask(y, "n4(A),!");
        check.due("the cut is not reached", 2, () -> y.solve(20));
        check.due("the choice is there", 1, () -> y.count(1));
        GoalEngine z = withStepsLeft(1);
        Talk.ask(z, "n3");
        z.solve(1);
        check.due("no other way", 0, () -> z.next() ? 1 : 0);
    }

    public static void main(String[] args) {
        TankTest test = new TankTest();
        test.fullAtFirst();
        test.asManyAsAreSaid();
        test.noMoreThanAreNeeded();
        test.stepsThatEndTheSearch();
        test.tooMuchTakesAStep();
        test.nothingFillsIt();
        test.threeHundredSteps();
        test.whatTheLastStepLeadsTo();
        test.theTankEndsInTheMiddle();
        test.emptyTank();
        test.nextWithAnEmptyTank();
        test.check.end();
    }
}
