/** Promises 8 and 9: collect and count, with the cells that copies take and those that are live. */
public final class CellsTest {
    private final Check check = new Check();

    private void copies() {
        String[] questions = {"n2", "!", "n2,!,n3", "n2(1)", "n2(A)", "n2(A,A)", "n2(A,B)", "n2(nil,1,n4)",
            "n2(n3(n4(1)))", "n2(H,C,H),n3(C)", "same(A,n2(A,B,C)),!,n5"};
        int[] due = {0, 0, 0, 2, 3, 4, 5, 4, 6, 8, 10};
        for (int i = 0; i < due.length; i++) {
            String question = questions[i];
            GoalEngine x = new GoalEngine();
            check.due("ask " + question, due[i], () -> Talk.ask(x, question));
            check.due("cells of " + question, due[i], () -> x.count(0));
        }
        GoalEngine x = Talk.engineWith("n2(A),n3(B,A)", "n3(1,n4(A,B))");
        Talk.ask(x, "n2(C)");
        x.solve(1);
        check.due("and of a rule", 3 + 7, () -> x.count(0));
        x.solve(1);
        check.due("and of another", 3 + 7 + 8, () -> x.count(0));
    }

    private void counting() {
        GoalEngine x = Talk.engineWith("n2(1),n3", "n2(2)", "n3");
        for (int which : new int[] {-1, 7, 8, Integer.MIN_VALUE, Integer.MAX_VALUE}) {
            check.dueThrow("count(" + which + ")", IllegalArgumentException.class, () -> x.count(which));
        }
        Talk.ask(x, "n2(A),n2(B)");
        x.solve(1);
        x.put(9);
        int[] due = {8, 1, 2, 299, 3, 1, 0};
        for (int i = 0; i < due.length; i++) {
            int which = i;
            check.due("count(" + i + ")", due[i], () -> x.count(which));
        }
    }

    private void collectingWithoutASearch() {
        GoalEngine x = Talk.engineWith("n2");
        check.due("no search", 0, x::collect);
        check.due("is no collection", 0, () -> x.count(6));
        Talk.ask(x, "n2");
        check.due("none to free", 0, x::collect);
        check.due("but it is a collection", 1, () -> x.count(6));
        x.solve(1);
        x.next();
        check.due("over", 0, x::collect);
        check.due("is no collection", 1, () -> x.count(6));
        Talk.ask(x, "n2");
        check.due("a question forgets no collection", 1, () -> x.count(6));
        x.stop();
        check.due("stopped", 0, x::collect);
        check.due("is no collection", 1, () -> x.count(6));
    }

    private void laterVariablesAreBoundToEarlier() {
        GoalEngine x = Talk.engineWith("n2(A)");
        Talk.ask(x, "n2(A)");
        x.solve(1);
        check.due("cells", 6, () -> x.count(0));
        check.due("all but the question's variable", 5, x::collect);
        check.due("cells", 1, () -> x.count(0));
        Talk.ask(x, "same(B,A),same(C,B)");
        x.solve(2);
        check.due("the variables stay", 6, x::collect);
        check.due("answer", Talk.row("A,A,A"), Talk.answer(x));
    }

    private void boundTermsAreLive() {
        GoalEngine x = Talk.engineWith("n2(n3(A,B,A)),n4(B)", "n4(n5(C))");
        Talk.ask(x, "n2(A)");
        check.due("answer", 1, () -> x.solve(2));
        check.due("cells", 3 + 10 + 5, () -> x.count(0));
        check.due("live are A, n3(A, B, A), A, B, n5(C), C", 18 - 10, x::collect);
        check.due("cells", 10, () -> x.count(0));
        check.due("answer", Talk.row("n3(A,n5(B),A)"), Talk.answer(x));
        check.due("no more to free", 0, x::collect);
    }

    private void goalsAtHandAreLive() {
        GoalEngine x = Talk.engineWith("n2(A),n3(B),n4(B,A)", "n3(1)", "n4(1,2)");
        Talk.ask(x, "n2(A)");
        x.solve(1);
        check.due("cells", 3 + 9, () -> x.count(0));
        check.due("question's goal and rule's head", 4, x::collect);
        check.due("goals", 2, () -> x.count(2));
        check.due("goes on", 1, () -> x.solve(2));
        check.due("answer", Talk.row("2"), Talk.answer(x));
    }

    private void whatChoicesKeepIsLive() {
        GoalEngine x = Talk.engineWith("n2(A),n3(A)", "n2(7)", "n3(1)", "n3(2)");
        Talk.ask(x, "n2(A),n4(B)");
        x.solve(2);
        check.due("cells", 6 + 5 + 2, () -> x.count(0));
        check.due("choices", 2, () -> x.count(1));
        check.due("the head of n2 and of n3(1)", 4, x::collect);
        check.due("n4 fails, then n3(2), then n4", 2, () -> x.solve(3));
        check.due("choices", 0, () -> x.count(1));
        check.due("cells before n2 was tried", 6, () -> x.count(0));
        check.due("goals", 2, () -> x.count(2));
    }

    private void cutFrees() {
        GoalEngine x = Talk.engineWith("n2(A),n3(A)", "n2(7)", "n3(1)", "n3(2)", "n5(A),n2(A),!");
        Talk.ask(x, "n2(A)");
        x.solve(2);
        check.due("with choices", 2 + 2, x::collect);
        Talk.ask(x, "n5(A)");
        x.solve(4);
        check.due("no choices", 0, () -> x.count(1));
        check.due("cells", 3 + 5 + 5 + 2, () -> x.count(0));
        check.due("after the cut only A is live", 14, x::collect);
        check.due("answer", Talk.row("1"), Talk.answer(x));
        check.due("no other", 0, () -> x.next() ? 1 : 0);
    }

    /** Every step takes 5 cells; of the 240, the question's leave room for 47 times 5. */
    private void collectionInAStep() {
        GoalEngine x = Talk.engineWith("n2(A),n2(A)");
        Talk.ask(x, "n2(n3(A))");
        x.solve(20);
        x.solve(20);
        check.due("goes on", 2, () -> x.solve(7));
        check.due("all cells", 240, () -> x.count(0));
        check.due("no collection", 0, () -> x.count(6));
        check.due("goes on", 2, () -> x.solve(1));
        check.due("one collection", 1, () -> x.count(6));
        check.due("A, n3(A), the goal, its variable, the copy", 1 + 2 + 2 + 1 + 5, () -> x.count(0));
        Talk.ask(x, "n2(1)");
        x.solve(20);
        x.solve(20);
        x.solve(7);
        check.due("not all cells", 237, () -> x.count(0));
        x.solve(1);
        check.due("two collections", 2, () -> x.count(6));
        check.due("the goal, its variable, the copy", 2 + 1 + 5, () -> x.count(0));
    }

    private void noRoom() {
        GoalEngine x = Talk.engineWith("n2(A),n2(n3(A))");
        Talk.ask(x, "n2(1)");
        check.dueThrow("no room", UnsupportedOperationException.class, () -> {
            for (int i = 0; i < 10; i++) {
                x.solve(20);
            }
            return 0;
        });
        check.due("over", 0, () -> x.count(0));
        check.dueThrow("over", IllegalStateException.class, () -> x.solve(1));
        // A level that stays takes n3, its argument and its variable.
        check.due("steps", 300 - 79, () -> x.count(3));
        Talk.ask(x, "n2(1)");
        check.due("another question has room", 2, () -> x.solve(20));
        check.due("cells", 2 + 20 * 7, () -> x.count(0));
    }

    /** A choice that is made just before the collection keeps its goal. */
    private void collectionWithAChoice() {
        GoalEngine x = Talk.engineWith("n2(A),n4,n2(A)", "n2(5)", "n4");
        Talk.ask(x, "n2(A)");
        check.dueThrow("choices keep all goals", UnsupportedOperationException.class, () -> {
            for (int i = 0; i < 15; i++) {
                x.solve(20);
            }
            return 0;
        });
        check.due("over", 0, () -> x.count(1));
    }

    /** Cells are free when the search goes back, whether or not there was a collection since the choice. */
    private void goingBackAfterACollection() {
        GoalEngine x = Talk.engineWith("n2(A),n5(B,A),n3(C),same(C,B),n6", "n2(9)", "n5(n7(A,A),1)", "n3(A)", "n3(4)");
        Talk.ask(x, "n2(A)");
        x.solve(4);
        check.due("choices", 2, () -> x.count(1));
        int before = x.count(0);
        int freed = x.collect();
        check.due("cells", before - freed, () -> x.count(0));
        check.due("n6 fails", 2, () -> x.solve(1));
        int cells = x.count(0);
        check.due("nothing was bound that the choice did not keep", 0, x::collect);
        check.due("cells", cells, () -> x.count(0));
        check.due("n3(4) fails with same", 2, () -> x.solve(2));
        check.due("cells of the question", 3, () -> x.count(0));
        check.due("the last rule", 1, () -> x.solve(1));
        check.due("answer", Talk.row("9"), Talk.answer(x));
    }

    public static void main(String[] args) {
        CellsTest test = new CellsTest();
        test.copies();
        test.counting();
        test.collectingWithoutASearch();
        test.laterVariablesAreBoundToEarlier();
        test.boundTermsAreLive();
        test.goalsAtHandAreLive();
        test.whatChoicesKeepIsLive();
        test.cutFrees();
        test.collectionInAStep();
        test.noRoom();
        test.collectionWithAChoice();
        test.goingBackAfterACollection();
        test.check.end();
    }
}
