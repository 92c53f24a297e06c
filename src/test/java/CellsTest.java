/** Promises 8 and 9: collect and count, with the cells that copies take and those that are live. */
public final class CellsTest {
    private final Check check = new Check();

    private void counting() {
        GoalEngine x = Talk.engineWith("n2(1),n3", "n2(2)", "n3");
        for (int which : new int[] {-1, 7, 8, Integer.MIN_VALUE, Integer.MAX_VALUE}) {
            check.dueThrow("count(" + which + ")", IllegalArgumentException.class, () -> x.count(which));
        }
        Talk.ask(x, "n2(A),n2(B)");
        x.solve(1);
        x.put(9);
        int[] due = {8, 1, 2, 299, 3, 1, 0};
        for (int i = 0; i < due.length; i++) {
            int which = i;
            check.due("count(" + i + ")", due[i], () -> x.count(which));
        }
    }

    private void collectingWithoutASearch() {
        GoalEngine x = Talk.engineWith("n2");
        check.due("no search", 0, x::collect);
        check.due("is no collection", 0, () -> x.count(6));
        Talk.ask(x, "n2");
        check.due("none to free", 0, x::collect);
        check.due("but it is a collection", 1, () -> x.count(6));
        x.solve(1);
        x.next();
        check.due("over", 0, x::collect);
        check.due("is no collection", 1, () -> x.count(6));
        Talk.ask(x, "n2");
        check.due("a question forgets no collection", 1, () -> x.count(6));
        x.stop();
        check.due("stopped", 0, x::collect);
        check.due("is no collection", 1, () -> x.count(6));
    }

    private static GoalEngine after(int steps, String question, String... rules) {
        GoalEngine x = Talk.engineWith(rules);
        Talk.ask(x, question);
        Talk.steps(x, steps);
        return x;
    }

    /** What a collection leaves as it is: choices, goals, tank, rules, words typed and the answer. */
    private static String rest(GoalEngine x) {
        StringBuilder row = new StringBuilder();
        for (int which = 1; which <= 5; which++) {
            row.append(x.count(which)).append(' ');
        }
        return row.append("| ").append(Talk.answer(x)).toString();
    }

    /** So many cells live, and a second collection finds none to free. */
    private void live(String what, int due, GoalEngine x) {
        int before = x.count(0);
        int collections = x.count(6);
        String rest = rest(x);
        check.due(what + ": freed", before - due, x::collect);
        check.due(what + ": live", due, () -> x.count(0));
        check.due(what + ": a collection", collections + 1, () -> x.count(6));
        check.due(what + ": none to free", 0, x::collect);
        check.due(what + ": live still", due, () -> x.count(0));
        check.due(what + ": a collection again", collections + 2, () -> x.count(6));
        check.due(what + ": all else", rest, rest(x));
    }

    /** "LIVE are the cells of the goals at hand", with the variables in them; heads and goals that are gone are not. */
    private void goalsAtHand() {
        GoalEngine x = after(1, "n2(A)", "n2(A),n3(B),n4(B,A)", "n3(1)", "n4(1,2)");
        live("A, n3, n4, and the rule's two variables", 1 + 2 + 3 + 2, x);
        check.due("goes on", 1, () -> x.solve(2));
        check.due("answer", Talk.row("2"), Talk.answer(x));
        live("no goals", 1, x);
    }

    /** "and of those that choices keep": the goal that was tried, and those behind it. */
    private void goalsOfChoices() {
        GoalEngine x = after(2, "n2(A),n4(B)", "n2(A),n3(A)", "n2(7)", "n3(1)", "n3(2)");
        check.due("choices", 2, () -> x.count(1));
        live("A, B, n2, n4, and n3 with its variable", 2 + 2 + 2 + 2 + 1, x);
        check.due("n4 fails, then n3(2), then n4", 2, () -> x.solve(3));
        check.due("choices", 0, () -> x.count(1));
        check.due("cells before n2 was tried", 6, () -> x.count(0));
        check.due("goals", 2, () -> x.count(2));
    }

    /** A cut gives up choices, and so what they kept. */
    private void goalsOfChoicesThatAreCut() {
        String[] rules = {"n2(A),n3(A)", "n2(7)", "n3(1)", "n3(2)", "n5(A),n2(A),!"};
        live("A, n2 and n3 with their variables", 1 + 3 + 3, after(3, "n5(A)", rules));
        GoalEngine x = after(4, "n5(A)", rules);
        check.due("no choices", 0, () -> x.count(1));
        check.due("cells", 3 + 5 + 5 + 2, () -> x.count(0));
        live("after the cut only A", 1, x);
        check.due("answer", Talk.row("1"), Talk.answer(x));
        check.due("no other", 0, () -> x.next() ? 1 : 0);
    }

    /** "of the question's variables", bound or not, in a goal or not. */
    private void questionVariables() {
        live("bound to a number", 1, after(1, "same(A,1)"));
        live("bound to another", 2, after(1, "same(A,B)"));
        live("not bound", 1, after(1, "n2(A)", "n2(A)"));
        live("eight of them", 8, after(3, "n2(A,B,C),n2(D,E,F),n2(G,H,H)", "n2(A,B,C)"));
        live("none", 0, after(1, "n2(1)", "n2(A)"));
        GoalEngine x = after(2, "same(B,A),same(C,B)");
        live("a row of them", 3, x);
        check.due("answer", Talk.row("A,A,A"), Talk.answer(x));
    }

    /** "and those of terms to which bound live variables are bound, and of arguments of live names" */
    private void termsOfLiveVariables() {
        GoalEngine x = after(2, "n2(A)", "n2(n3(A,B,A)),n4(B)", "n4(n5(C))");
        check.due("cells", 3 + 10 + 5, () -> x.count(0));
        live("A, n3(A,B,A), A, B, n5(C), C", 1 + 4 + 1 + 1 + 2 + 1, x);
        check.due("answer", Talk.row("n3(A,n5(B),A)"), Talk.answer(x));
        live("a term in a term", 1 + 2 + 2 + 2, after(1, "n2(A)", "n2(n3(n4(n5(1))))"));
        live("a term that is there twice", 1 + 3 + 1 + 2, after(1, "n2(n6(1),A)", "n2(A,n7(A,A))"));
    }

    /** "(A name's cell and those of its arguments are one.)": but a term does not keep that in which it is. */
    private void namesAndTheirArguments() {
        live("n3 and its three arguments", 1 + 4, after(1, "n2(A)", "n2(n3(1,nil,2))"));
        GoalEngine x = after(1, "n2(n4(n3(1)),A)", "n2(n4(B),B)");
        check.due("cells", 8 + 6, () -> x.count(0));
        live("A and n3(1)", 1 + 2, x);
        check.due("answer", Talk.row("n3(1)"), Talk.answer(x));
    }

    /** Variables that are bound on the way are live only if something live has them. */
    private void boundVariablesOnTheWay() {
        live("n2's variable is in no term", 1 + 2, after(2, "n2(A)", "n2(B),n3(B)", "n3(n4(1))"));
        live("n2's variable is in n5", 1 + 2 + 1 + 2, after(2, "n2(A)", "n2(n5(B)),n3(B)", "n3(n4(1))"));
    }

    /** "of variables that were bound since a choice was made that there is still, and taken before that" */
    private void variablesBoundSinceAChoice() {
        GoalEngine x = after(3, "n2", "n2,n3(A),n4(A),n5(B)", "n3(C)", "n4(n6(1))", "n4(7)", "n5(8)");
        check.due("a choice", 1, () -> x.count(1));
        live("n4, n5, their variables, and n6(1)", 2 + 2 + 2 + 2, x);
        check.due("the choice goes", 1, () -> x.solve(1));
        x.next();
        live("what was bound is not bound any more", 2 + 2 + 2, x);
        check.due("the other way", 1, () -> x.solve(2));
    }

    /** Cells are free when the search goes back, whether or not there was a collection since the choice. */
    private void goingBackAfterACollection() {
        GoalEngine x = Talk.engineWith("n2(A),n5(B,A),n3(C),same(C,B),n6", "n2(9)", "n5(n7(A,A),1)", "n3(A)", "n3(4)");
        Talk.ask(x, "n2(A)");
        x.solve(4);
        check.due("choices", 2, () -> x.count(1));
        int before = x.count(0);
        int freed = x.collect();
        check.due("cells", before - freed, () -> x.count(0));
        check.due("n6 fails", 2, () -> x.solve(1));
        int cells = x.count(0);
        check.due("nothing was bound that the choice did not keep", 0, x::collect);
        check.due("cells", cells, () -> x.count(0));
        check.due("n3(4) fails with same", 2, () -> x.solve(2));
        check.due("cells of the question", 3, () -> x.count(0));
        check.due("the last rule", 1, () -> x.solve(1));
        check.due("answer", Talk.row("9"), Talk.answer(x));
    }

    public static void main(String[] args) {
        CellsTest test = new CellsTest();
        test.counting();
        test.collectingWithoutASearch();
        test.goalsAtHand();
        test.goalsOfChoices();
        test.goalsOfChoicesThatAreCut();
        test.questionVariables();
        test.termsOfLiveVariables();
        test.namesAndTheirArguments();
        test.boundVariablesOnTheWay();
        test.variablesBoundSinceAChoice();
        test.goingBackAfterACollection();
        test.check.end();
    }
}
