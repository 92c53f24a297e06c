/** The section Terms, cells: what copies take, the 240, the collection and no room when a rule is tried. */
public final class RoomTest {
    private static final Class<UnsupportedOperationException> LIMIT = UnsupportedOperationException.class;
    private final Check check = new Check();

    private static GoalEngine asked(String question, String... rules) {
        GoalEngine x = Talk.engineWith(rules);
        Talk.ask(x, question);
        return x;
    }

    private void takes(String question, int due) {
        GoalEngine x = new GoalEngine();
        check.due("ask " + question, due, () -> Talk.ask(x, question));
        check.due("cells of " + question, due, () -> x.count(0));
    }

    /** "a cell for each variable that is in it (as many times as it may be)" */
    private void cellsOfVariables() {
        takes("n2(A)", 2 + 1);
        takes("n2(A,A)", 3 + 1);
        takes("n2(A,B)", 3 + 2);
        takes("n2(H,A,H),n2(A,A,H)", 8 + 2);
        takes("n2(A,B,C),n2(D,E,F),n2(G,H)", 11 + 8);
    }

    /** "for each name with arguments .. a cell and one for each argument": none for numbers, cuts and other names. */
    private void cellsOfNames() {
        takes("n2", 0);
        takes("!", 0);
        takes("n2,!,n31", 0);
        takes("n2(1)", 2);
        takes("n2(1,nil)", 3);
        takes("n2(1,nil,2)", 4);
        takes("n2(n3(1))", 2 + 2);
        takes("n2(n3(n4(1,2),n5),6,n7(1,2,3))", 4 + 3 + 3 + 4);
        takes("n2(1),n2(1)", 2 + 2);
        takes("same(1,sum(1,2))", 3 + 3);
    }

    /** The longest question and the longest rule. */
    private void cellsOfThirtyWords() {
        takes("n2(1)" + ",n2(1)".repeat(14), 30);
        takes("n2(n2(n2(n2(n2(n2(n2(n2(n2(n2(n2(n2(n2(n2(n2(n2(n2(n2(n2(n2(n2(n2(n2(n2(n2(n2(n2(n2(n2(A"
                + ")".repeat(29), 29 * 2 + 1);
    }

    /** A rule's copy takes cells for its body, too, even if its head does not fit. */
    private void cellsOfARule() {
        GoalEngine x = asked("n2(1),n9", "n2(A),n3(B,n4(A))", "n2(1)");
        x.solve(1);
        check.due("2, 2 of the variables, 2, 3 and 2 of the names", 2 + 2 + 2 + 3 + 2, () -> x.count(0));
        GoalEngine y = asked("n2(1),n2(2)", "n2(1)");
        check.due("the copy that does not fit", 0, () -> y.solve(2));
        check.due("is gone with the search", 0, () -> y.count(0));
    }

    /** n2 takes 5 cells in each step and needs 3 of them; what is asked with it only takes place. */
    private static GoalEngine looping(String besides) {
        return asked("n2(1)" + besides, "n2(A),n2(A)");
    }

    /** "There are 240 cells": a copy that makes them 240 needs no collection. */
    private void exactlyAllCells() {
        GoalEngine x = looping(",n9(1,1)");
        check.due("goes on", 2, () -> Talk.steps(x, 47));
        check.due("5 and 47 times 5", 240, () -> x.count(0));
        check.due("no collection", 0, () -> x.count(6));
        check.due("goes on", 2, () -> x.solve(1));
        check.due("a collection", 1, () -> x.count(6));
        check.due("n9's, the goal's, its variable's, the copy's", 3 + 2 + 1 + 5, () -> x.count(0));
    }

    /** "If the cells in use and those of a copy are more than 240, there is a collection": with 241 they are. */
    private void oneCellTooFew() {
        GoalEngine x = looping(",n9(1,1,1)");
        check.due("goes on", 2, () -> Talk.steps(x, 46));
        check.due("6 and 46 times 5", 236, () -> x.count(0));
        check.due("no collection", 0, () -> x.count(6));
        check.due("goes on", 2, () -> x.solve(1));
        check.due("a collection", 1, () -> x.count(6));
        check.due("n9's, the goal's, its variable's, the copy's", 4 + 2 + 1 + 5, () -> x.count(0));
    }

    /** A copy that takes no cells has room, even if all 240 are in use. */
    private void copiesWithoutCells() {
        GoalEngine x = asked("n2(1),n9(1,1)", "n2(A),n3,n2(A)", "n3");
        check.due("47 times n2, 46 times n3", 2, () -> Talk.steps(x, 93));
        check.due("all cells", 240, () -> x.count(0));
        check.due("n3", 2, () -> x.solve(1));
        check.due("all cells, still", 240, () -> x.count(0));
        check.due("no collection", 0, () -> x.count(6));
        check.due("n2", 2, () -> x.solve(1));
        check.due("now there is one", 1, () -> x.count(6));
    }

    /** n2 needs 3 cells more in each step: a term, and the variable in it. Its copy takes 7. */
    private static GoalEngine growing(String besides) {
        return asked("n2(1)" + besides, "n2(A),n2(n3(A))");
    }

    /** "if they still are, there is NO ROOM": after a collection 240 have room. */
    private void roomAfterACollection() {
        GoalEngine x = growing("");
        check.due("goes on", 2, () -> Talk.steps(x, 77));
        int collections = x.count(6);
        check.due("2, 77 times 3 and a copy", 2, () -> x.solve(1));
        check.due("all cells", 240, () -> x.count(0));
        check.due("one collection more", collections + 1, () -> x.count(6));
        check.dueThrow("243 have no room", LIMIT, () -> x.solve(1));
        check.due("one collection more", collections + 2, () -> x.count(6));
    }

    /** And 241 have none. */
    private void noRoomAfterACollection() {
        GoalEngine x = growing(",n9(1,1,1)");
        check.due("goes on", 2, () -> Talk.steps(x, 76));
        check.due("2, 4, 75 times 3 and a copy", 238, () -> x.count(0));
        int collections = x.count(6);
        check.dueThrow("2, 4, 76 times 3 and a copy", LIMIT, () -> x.solve(1));
        check.due("a collection, though in vain", collections + 1, () -> x.count(6));
    }

    /** "after these two the search is over": there is nothing of it, but there may be another. */
    private void overWithoutRoom() {
        GoalEngine x = growing("");
        check.dueThrow("no room", LIMIT, () -> Talk.steps(x, 100));
        for (int which = 0; which <= 2; which++) {
            int w = which;
            check.due("count(" + w + ")", 0, () -> x.count(w));
        }
        check.due("steps", 300 - 79, () -> x.count(3));
        check.dueThrow("solve", IllegalStateException.class, () -> x.solve(1));
        check.dueThrow("next", IllegalStateException.class, () -> x.next() ? 1 : 0);
        check.due("collect", 0, x::collect);
        check.due("rule", 2, () -> Talk.rule(x, "n4"));
        check.due("ask", 2, () -> Talk.ask(x, "n2(1)"));
        check.due("all cells are free again", 2, () -> x.solve(20));
        check.due("cells", 2 + 20 * 7, () -> x.count(0));
    }

    /** No room is no failing step: choices do not help. */
    private void noRoomWithChoices() {
        GoalEngine x = asked("n4(A),n2(1)", "n4(1)", "n4(2)", "n2(A),n2(n3(A))");
        Talk.steps(x, 20);
        check.due("a choice", 1, () -> x.count(1));
        check.dueThrow("no room", LIMIT, () -> Talk.steps(x, 100));
        check.due("over", 0, () -> x.count(1));
        check.dueThrow("over", IllegalStateException.class, () -> x.solve(1));
    }

    /** Each try leaves a choice, which keeps its goal: nothing can be freed but the heads. */
    private void choicesKeepCells() {
        GoalEngine x = asked("n2(1)", "n2(A),n2(A)", "n2(2)");
        check.due("goes on", 2, () -> Talk.steps(x, 47));
        check.due("no collection", 0, () -> x.count(6));
        check.due("goes on", 2, () -> x.solve(1));
        check.due("a collection freed 47 heads", 2 + 47 * 3 + 5, () -> x.count(0));
        check.due("48 choices", 48, () -> x.count(1));
        check.due("goes on", 2, () -> Talk.steps(x, 30));
        check.dueThrow("2, 79 times 3 and 5 have no room", LIMIT, () -> Talk.steps(x, 2));
    }

    /** The head that a collection made room for fails: the choice has its goals and cells where they are now. */
    private void failingAfterACollection() {
        GoalEngine x = asked("n2(1),n9(1,1),n9(1,1)", "n2(A),n3(A),n2(A)", "n3(2)", "n3(1)");
        check.due("25 rounds and n2", 2, () -> Talk.steps(x, 25 * 3 + 1));
        check.due("all cells", 240, () -> x.count(0));
        check.due("n3(2) fails", 2, () -> x.solve(1));
        check.due("a collection", 1, () -> x.count(6));
        check.due("two n9, n3, n2 and the variable", 6 + 2 + 2 + 1, () -> x.count(0));
        check.due("all goals", 4, () -> x.count(2));
        check.due("no choice", 0, () -> x.count(1));
        check.due("n3(1)", 2, () -> x.solve(1));
        check.due("its copy", 11 + 2, () -> x.count(0));
        check.due("the goals behind", 3, () -> x.count(2));
    }

    /** The rule that a choice says needs the collection, which its goal lives through. */
    private void collectionForALaterRule() {
        GoalEngine x = asked("n2(1),n9(1,1),n9(1,1)", "n2(A),n3(A),n2(A)", "n3(2)", "n3(A),same(A,1)");
        check.due("17 rounds and n2", 2, () -> Talk.steps(x, 17 * 4 + 1));
        check.due("four cells are free", 236, () -> x.count(0));
        check.due("n3(2) fails", 2, () -> x.solve(1));
        check.due("without a collection", 0, () -> x.count(6));
        check.due("four cells are free", 236, () -> x.count(0));
        check.due("n3(A)", 2, () -> x.solve(1));
        check.due("a collection", 1, () -> x.count(6));
        check.due("two n9, n3, n2, the variable, the copy", 6 + 2 + 2 + 1 + 6, () -> x.count(0));
        check.due("same holds: the goal is what it was", 2, () -> x.solve(1));
        check.due("n2 and the two n9 are left", 3, () -> x.count(2));
    }

    /** What is bound by the head that a collection made room for is not bound any more when that way fails. */
    private void undoneAfterACollectionInATry() {
        GoalEngine x = asked("n2(19),same(A,1),n3(B)", "n2(0),!", "n2(A),is(C,diff(A,1)),n2(C)", "n3(5),n8", "n3(6)");
        check.due("19 rounds, the last n2, its cut and same", 2, () -> Talk.steps(x, 19 * 3 + 3));
        check.due("one cell is free", 239, () -> x.count(0));
        check.due("n3(5)", 2, () -> x.solve(1));
        check.due("a collection", 1, () -> x.count(6));
        check.due("n8 fails", 2, () -> x.solve(1));
        check.due("A, B and n3 are left", 1 + 1 + 2, () -> x.count(0));
        check.due("n3(6)", 1, () -> x.solve(1));
        check.due("B was not bound", Talk.row("1,6"), Talk.answer(x));
    }

    /** A collection moves the variable that was bound since the choice: it is found where it is now. */
    private void undoneWhereItIsNow() {
        GoalEngine x = asked("n7(1),n2", "n7(1)", "n2,n4(B),n5(B)", "n4(5)", "n4(6)", "n5(6)");
        check.due("n7, n2, n4(5)", 2, () -> x.solve(3));
        check.due("both n7, and n4(5)", 2 + 2 + 2, x::collect);
        check.due("n5 fails, n4(6), n5", 1, () -> x.solve(3));
    }

    public static void main(String[] args) {
        RoomTest test = new RoomTest();
        test.cellsOfVariables();
        test.cellsOfNames();
        test.cellsOfThirtyWords();
        test.cellsOfARule();
        test.exactlyAllCells();
        test.oneCellTooFew();
        test.copiesWithoutCells();
        test.roomAfterACollection();
        test.noRoomAfterACollection();
        test.overWithoutRoom();
        test.noRoomWithChoices();
        test.choicesKeepCells();
        test.failingAfterACollection();
        test.collectionForALaterRule();
        test.undoneAfterACollectionInATry();
        test.undoneWhereItIsNow();
        test.check.end();
    }
}
