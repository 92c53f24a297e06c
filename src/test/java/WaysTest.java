/** The section Terms, steps: what a try, a cut and a failing step leave of goals, choices, cells and bindings. */
public final class WaysTest {
    private final Check check = new Check();

    /** Cells, choices and goals at hand. */
    private void counts(String what, GoalEngine x, int cells, int choices, int goals) {
        check.due(what + ": cells", cells, () -> x.count(0));
        check.due(what + ": choices", choices, () -> x.count(1));
        check.due(what + ": goals", goals, () -> x.count(2));
    }

    private void over(String what, GoalEngine x) {
        counts(what, x, 0, 0, 0);
        check.due(what + ": words", 0, x::words);
        check.dueThrow(what + ": solve", IllegalStateException.class, () -> x.solve(1));
        check.dueThrow(what + ": next", IllegalStateException.class, () -> x.next() ? 1 : 0);
        check.due(what + ": a rule may come", x.count(4) + 1, () -> Talk.rule(x, "n22"));
    }

    private static GoalEngine asked(String question, String... rules) {
        GoalEngine x = Talk.engineWith(rules);
        Talk.ask(x, question);
        return x;
    }

    /** "It begins with a copy of the question, its goals at hand .., no choices, and only its cells in use." */
    private void begin() {
        GoalEngine x = asked("n2(A),n2(B),!", "n2(1)", "n2(2)");
        counts("begun", x, 6, 0, 3);
        x.solve(2);
        counts("two steps later", x, 6 + 4, 2, 1);
        Talk.ask(x, "n3(C),n2(C)");
        counts("another one begun", x, 5, 0, 2);
        check.due("no choice of the other one is left", 0, () -> x.solve(1));
    }

    /** "If no goal is at hand, it has an ANSWER." */
    private void answer() {
        GoalEngine x = asked("n2,n2", "n2");
        check.due("one goal is left", 2, () -> x.solve(1));
        counts("one goal is left", x, 0, 0, 1);
        check.due("none is left", 1, () -> x.solve(1));
        counts("none is left", x, 0, 0, 0);
    }

    /** "the first rule that is FOR it (the same name, as many arguments) is tried; it fails if there is none" */
    private void rulesForAGoal() {
        String[] rules = {"n2", "n2(1)", "n2(1,1)", "n2(1,1,1)", "n3(1)"};
        for (String goal : new String[] {"n2", "n2(1)", "n2(1,1)", "n2(1,1,1)", "n3(1)"}) {
            GoalEngine x = asked(goal, rules);
            check.due(goal, 1, () -> x.solve(1));
            check.due(goal + ": there is no later rule for it", 0, () -> x.count(1));
        }
        for (String goal : new String[] {"n3", "n3(1,1)", "n3(1,1,1)", "n4(1)", "n1(1)"}) {
            GoalEngine x = asked(goal, rules);
            check.due(goal, 0, () -> x.solve(1));
            over(goal, x);
        }
    }

    /** "If there is a later rule for it, a choice is made": not for the last one. */
    private void choicesAreMade() {
        GoalEngine x = asked("n2(A)", "n2(1)", "n3(1)", "n2(2)", "n2(1,1)", "n2(3)", "n3(2)");
        for (int i = 1; i <= 3; i++) {
            check.due("answer " + i, 1, () -> x.solve(1));
            check.due("answer " + i, Talk.row("" + i), Talk.answer(x));
            counts("answer " + i, x, 3 + 2, i < 3 ? 1 : 0, 0);
            check.due("next", i < 3 ? 1 : 0, () -> x.next() ? 1 : 0);
        }
        over("no rule is left", x);
    }

    /** "it keeps the goals at hand, with this one in front of them" */
    private void choicesKeepGoals() {
        GoalEngine x = asked("n2(A),n3,n4", "n2(1),n5,n5", "n2(2)", "n5");
        x.solve(1);
        counts("the body is in front", x, 3 + 2, 1, 4);
        x.solve(2);
        counts("the body is gone", x, 3 + 2, 1, 2);
        check.due("n3 fails", 2, () -> x.solve(1));
        counts("the goals are back", x, 3, 0, 3);
    }

    /** "then the goals of its body come in front of those at hand": in their order. */
    private void bodiesComeInFront() {
        GoalEngine x = asked("n2(A,B),same(B,2)", "n2(A,B),n3(A),n3(B)", "n3(1)", "n3(2)");
        x.solve(1);
        check.due("A before B before the question's own", 2, () -> x.solve(1));
        counts("A has a choice", x, 8 + 9 + 2, 1, 2);
        check.due("B = 1 fails, B = 2 does not", 1, () -> x.solve(4));
        check.due("A = 1, B = 2", Talk.row("1,2"), Talk.answer(x));
    }

    /** "CUT: only as many choices are left as its height": in a question that is none. */
    private void cutInAQuestion() {
        GoalEngine x = asked("n2(A),n2(B),!,n3", "n2(1)", "n2(2)", "n3");
        x.solve(2);
        counts("before the cut", x, 6 + 4, 2, 2);
        check.due("the cut", 2, () -> x.solve(1));
        counts("it leaves cells and goals", x, 6 + 4, 0, 1);
        x.solve(1);
        check.due("and what is bound", Talk.row("1,1"), Talk.answer(x));
        check.due("but no other way", 0, () -> x.next() ? 1 : 0);
        over("after that", x);
    }

    /** The choice that was made for the rule itself goes, too, and those that are older stay. */
    private void cutInARule() {
        GoalEngine x = asked("n2(A),n4(B)", "n2(1)", "n2(2)", "n4(A),n2(A),n2(C),!", "n4(9)");
        x.solve(4);
        counts("before the cut", x, 6 + 2 + 8 + 4, 4, 1);
        check.due("the cut", 1, () -> x.solve(1));
        counts("the oldest one is left", x, 6 + 2 + 8 + 4, 1, 0);
        check.due("answer", Talk.row("1,1"), Talk.answer(x));
        check.due("next", 1, () -> x.next() ? 1 : 0);
        counts("as before n2(A) was tried", x, 6, 0, 2);
        check.due("A = 2", 1, () -> x.solve(20));
        check.due("A = 2", Talk.row("2,1"), Talk.answer(x));
        check.due("n4(9) was given up", 0, () -> x.next() ? 1 : 0);
    }

    /** "if there are more": a cut at its own height leaves all. */
    private void cutWithNothingToGiveUp() {
        GoalEngine x = asked("n2(A),n3,n3", "n2(1)", "n2(2)", "n3,!,!");
        x.solve(2);
        counts("before the cut", x, 3 + 2, 1, 3);
        x.solve(1);
        counts("after it", x, 3 + 2, 1, 2);
        x.solve(1);
        counts("after the other one", x, 3 + 2, 1, 1);
        GoalEngine y = asked("!");
        check.due("no choices at all", 1, () -> y.solve(1));
    }

    /** Goals that a choice brings back keep their heights, and those of its next rule get the same as the first. */
    private void heightsAfterAFailure() {
        GoalEngine x = asked("n2(A),n3(B)", "n2(1)", "n2(2)", "n3(1),n9", "n3(2),n2(C),!", "n3(3)");
        x.solve(3);
        counts("n9 failed: n3(2) is next", x, 6 + 2, 1, 1);
        x.solve(2);
        counts("n3(2) and n2(C)", x, 6 + 2 + 5 + 2, 3, 1);
        check.due("the cut leaves the choice of n2(A) alone", 1, () -> x.solve(1));
        check.due("one choice", 1, () -> x.count(1));
        check.due("answer", Talk.row("1,2"), Talk.answer(x));
        x.next();
        check.due("back to n2(2)", 2, () -> x.solve(2));
        check.due("n3(1) was tried for it", 1, () -> x.count(1));
    }

    /** "if there is no choice, the search is over" */
    private void failingWithoutAChoice() {
        for (String goal : new String[] {"n9", "same(1,2)", "is(1,2)", "less(1,1)", "equal(1,2)", "sum(1,2)", "n2(2)"}) {
            GoalEngine x = asked("n2(A)," + goal, "n2(1)");
            check.due(goal, 0, () -> x.solve(2));
            over(goal, x);
        }
    }

    /** "the latest one is taken away", one for each step that fails, and the next step tries the rule that it says. */
    private void failingWithChoices() {
        GoalEngine x = asked("n2(A),n2(B),less(4,sum(A,B))", "n2(1)", "n2(2)");
        x.solve(2);
        counts("A = 1, B = 1", x, 6 + 6 + 4, 2, 1);
        x.solve(1);
        counts("failed: n2(B) is back", x, 6 + 6 + 2, 1, 2);
        x.solve(1);
        counts("B = 2", x, 6 + 6 + 4, 1, 1);
        x.solve(1);
        counts("failed: n2(A) is back", x, 6 + 6, 0, 3);
        x.solve(1);
        counts("A = 2", x, 6 + 6 + 2, 0, 2);
        check.due("A = 2, B = 1 and B = 2 fail", 0, () -> x.solve(20));
        check.due("steps", 300 - 10, () -> x.count(3));
        over("after that", x);
    }

    /** "everything that was bound since it was made is not bound any more" */
    private void bindingsAreUndone() {
        GoalEngine x = asked("same(A,1),n2(B),same(C,n6(B,D)),same(D,7),less(1,B)", "n2(1)", "n2(2)");
        check.due("answer", 1, () -> x.solve(20));
        check.due("what was bound before stays", Talk.row("1,2,n6(2,7),7"), Talk.answer(x));
        GoalEngine y = asked("n2(A,B,C)", "n2(1,n6(A),A),n9", "n2(A,B,A)");
        check.due("answer", 1, () -> y.solve(20));
        check.due("all that the head bound is free again", Talk.row("A,B,A"), Talk.answer(y));
        GoalEngine z = asked("n2(n6(A,B),C)", "n2(n6(1,nil),1),n9", "n2(A,2)");
        check.due("answer", 1, () -> z.solve(20));
        check.due("inside a term, too", Talk.row("A,B,2"), Talk.answer(z));
    }

    /** What a head bound before it failed at its last argument is not bound any more, either. */
    private void bindingsOfAFailingUnification() {
        GoalEngine x = asked("n2(A,B,3)", "n2(1,2,4)", "n2(A,A,3)");
        check.due("the first head fails", 2, () -> x.solve(1));
        counts("as before", x, 2 + 4, 0, 1);
        check.due("the second one", 1, () -> x.solve(1));
        check.due("A and B are one variable", Talk.row("A,A"), Talk.answer(x));
    }

    /** "all cells that were taken since are free", also when a collection came between. */
    private void cellsAreFree() {
        for (boolean collects : new boolean[] {false, true}) {
            GoalEngine x = asked("n2(A),n9", "n2(A),n3(n6(A,B,C)),n3(B)", "n2(2)", "n3(A)");
            x.solve(3);
            counts("before", x, 3 + 13 + 6, 1, 1);
            if (collects) {
                check.due("all but the question's", 13 + 6, x::collect);
                counts("collected", x, 3, 1, 1);
            }
            check.due("n9 fails", 2, () -> x.solve(1));
            counts("after", x, 3, 0, 2);
        }
    }

    /** Far more is bound, and not bound any more, than there are cells. */
    private void bindingsAreUndoneTimeAndAgain() {
        GoalEngine x = asked("n2(A,B,C),n2(D,E,F),less(9,A)", "n2(1,1,1)", "n2(2,2,2)", "n2(3,3,3)", "n2(4,4,4)",
                "n2(5,5,5)", "n2(6,6,6)", "n2(7,7,7)", "n2(8,8,8)", "n2(9,9,9)", "n2(10,A,B)");
        check.due("nine ways of n2 with ten of the other one", 2, () -> Talk.steps(x, 9 * 21));
        counts("the tenth", x, 6 + 8 + 3, 0, 3);
        check.due("answer", 1, () -> x.solve(3));
        check.due("the tenth with the first", Talk.row("10,A,B,1,1,1"), Talk.answer(x));
    }

    /** Nor does a search leave anything bound to the next one. */
    private void bindingsOfManyQuestions() {
        GoalEngine x = Talk.engineWith("n3,n2(A,B,C),n2(D,E,F),n2(G,H,1)", "n2(1,2,3)", "n2(A,A,1)");
        for (int i = 0; i < 60; i++) {
            check.due("ask", 0, () -> Talk.ask(x, "n3"));
            check.due("solve", 2, () -> x.solve(4));
            check.due("choices", 2, () -> x.count(1));
        }
    }

    /** Promise 6: "as if a step had failed", but without a step. */
    private void next() {
        GoalEngine x = asked("n2(A),n3(B)", "n2(1)", "n2(2)", "n3(B)");
        check.due("answer", 1, () -> x.solve(2));
        counts("answer", x, 6 + 2 + 3, 1, 0);
        check.due("next", 1, () -> x.next() ? 1 : 0);
        counts("next", x, 6, 0, 2);
        check.due("no step", 298, () -> x.count(3));
        check.dueThrow("next again: there is no answer", IllegalStateException.class, () -> x.next() ? 1 : 0);
        counts("nothing moved", x, 6, 0, 2);
        check.due("the other answer", 1, () -> x.solve(2));
        check.due("the other answer", Talk.row("2,A"), Talk.answer(x));
        check.due("no choice: over by that", 0, () -> x.next() ? 1 : 0);
        over("after that", x);
        GoalEngine y = asked("n2(A)", "n2(1)", "n2(2),n9");
        y.solve(1);
        check.due("true, for it is not over by that alone", 1, () -> y.next() ? 1 : 0);
        check.due("though there is no other answer", 0, () -> y.solve(20));
    }

    /** As many choices as a tank allows, and a cut that takes all that its steps could make. */
    private void mostChoices() {
        GoalEngine x = asked("n2", "n2,n2", "n2,n9");
        check.due("goes on", 2, () -> Talk.steps(x, 300));
        counts("a choice in each step", x, 0, 300, 1);
        x.stop();
        over("stopped", x);
        GoalEngine y = asked("n2,n2,n2,n2,n2,n2,n2,n2,!", "n2" + ",n3".repeat(29), "n3", "n3");
        check.due("goes on", 2, () -> Talk.steps(y, 8 * 30));
        counts("before the cut", y, 0, 8 * 29, 1);
        check.due("the cut", 1, () -> y.solve(1));
        counts("after it", y, 0, 0, 0);
    }

    public static void main(String[] args) {
        WaysTest test = new WaysTest();
        test.begin();
        test.answer();
        test.rulesForAGoal();
        test.choicesAreMade();
        test.choicesKeepGoals();
        test.bodiesComeInFront();
        test.cutInAQuestion();
        test.cutInARule();
        test.cutWithNothingToGiveUp();
        test.heightsAfterAFailure();
        test.failingWithoutAChoice();
        test.failingWithChoices();
        test.bindingsAreUndone();
        test.bindingsOfAFailingUnification();
        test.cellsAreFree();
        test.bindingsAreUndoneTimeAndAgain();
        test.bindingsOfManyQuestions();
        test.next();
        test.mostChoices();
        test.check.end();
    }
}
