/** Promises 5 to 7: solve, next and stop, with unifying, calculating, cuts and the tank. */
public final class SolvingTest {
    private static final Class<IllegalStateException> STATE = IllegalStateException.class;
    private static final Class<ArithmeticException> ERROR = ArithmeticException.class;
    private static final Class<UnsupportedOperationException> LIMIT = UnsupportedOperationException.class;
    private final Check check = new Check();

    /** What one question comes to, with enough steps. */
    private static long outcome(GoalEngine x, String question) {
        Talk.ask(x, question);
        int result = 2;
        for (int i = 0; i < 15 && result == 2; i++) {
            result = x.solve(20);
        }
        return result;
    }

    private void yes(String question, String... rules) {
        check.due(question, 1, () -> outcome(Talk.engineWith(rules), question));
    }

    private void no(String question, String... rules) {
        check.due(question, 0, () -> outcome(Talk.engineWith(rules), question));
    }

    private void error(String question, String... rules) {
        throwsAndIsOver(question, ERROR, Talk.engineWith(rules));
    }

    private void throwsAndIsOver(String question, Class<? extends RuntimeException> thrown, GoalEngine x) {
        check.dueThrow(question, thrown, () -> outcome(x, question));
        check.dueThrow(question + ": over then", STATE, () -> x.solve(1));
        check.due(question + ": no cells then", 0, () -> x.count(0));
        check.due(question + ": no choices then", 0, () -> x.count(1));
        check.due(question + ": no goals then", 0, () -> x.count(2));
        check.due(question + ": a rule may come then", x.count(4) + 1, () -> Talk.rule(x, "n22"));
    }

    private void gives(String question, String answer, String... rules) {
        GoalEngine x = Talk.engineWith(rules);
        check.due(question, 1, () -> outcome(x, question));
        check.due(question, Talk.row(answer), Talk.answer(x));
    }

    private void steps() {
        GoalEngine x = Talk.engineWith("n2");
        for (int steps : new int[] {0, -1, 21, Integer.MIN_VALUE, Integer.MAX_VALUE}) {
            check.dueThrow("solve(" + steps + ")", IllegalArgumentException.class, () -> x.solve(steps));
        }
        check.dueThrow("solve without a search", STATE, () -> x.solve(1));
        Talk.ask(x, "n2,n2,n2");
        check.dueThrow("solve(0) in a search", IllegalArgumentException.class, () -> x.solve(0));
        check.due("one step", 2, () -> x.solve(1));
        check.due("two goals left", 2, () -> x.count(2));
        check.due("tank", 299, () -> x.count(3));
        check.due("no more steps than are needed", 1, () -> x.solve(20));
        check.due("tank", 297, () -> x.count(3));
        check.dueThrow("solve with an answer", STATE, () -> x.solve(1));
        check.dueThrow("but first the number", IllegalArgumentException.class, () -> x.solve(21));
        check.due("tank untouched", 297, () -> x.count(3));
        Talk.ask(x, "n2,n3");
        check.due("over", 0, () -> x.solve(20));
        check.due("a step that fails takes one, too", 295, () -> x.count(3));
        check.dueThrow("solve when it is over", STATE, () -> x.solve(1));
    }

    private void tank() {
        GoalEngine x = Talk.engineWith("n2,n2", "n3");
        Talk.ask(x, "n2");
        for (int i = 0; i < 14; i++) {
            check.due("goes on", 2, () -> x.solve(20));
        }
        check.due("goes on", 2, () -> x.solve(19));
        check.due("one step left", 1, () -> x.count(3));
        Talk.ask(x, "n3");
        check.due("no question fills it", 1, () -> x.count(3));
        check.due("the last step gives an answer", 1, () -> x.solve(20));
        check.due("empty", 0, () -> x.count(3));
        Talk.ask(x, "n3,n3");
        check.due("nothing goes on", 2, () -> x.solve(20));
        check.due("both goals are there", 2, () -> x.count(2));
        check.due("and again", 2, () -> x.solve(1));
        x.stop();
        check.dueThrow("stopped, with an empty tank", STATE, () -> x.solve(1));
    }

    private void tankEndsInTheMiddle() {
        GoalEngine x = Talk.engineWith("n2,n2", "n3");
        Talk.ask(x, "n2");
        for (int i = 0; i < 14; i++) {
            x.solve(20);
        }
        x.solve(18);
        Talk.ask(x, "n3,n3,n3");
        check.due("two steps of three", 2, () -> x.solve(3));
        check.due("one goal left", 1, () -> x.count(2));
        check.due("empty", 0, () -> x.count(3));
    }

    private void errorsTakeAStep() {
        GoalEngine x = Talk.engineWith("n2");
        check.dueThrow("error", ERROR, () -> outcome(x, "n2,is(A,B),n2"));
        check.due("two steps were begun", 298, () -> x.count(3));
    }

    private void unifying() {
        yes("same(1,1)");
        no("same(1,2)");
        yes("same(nil,nil)");
        no("same(nil,n1)");
        no("same(0,n0)");
        no("same(n2(1),n2(1,1))");
        no("same(n2(1),n3(1))");
        no("same(n2,n2(1))");
        no("same(n2(1),1)");
        yes("same(n2(1,2,3),n2(1,2,3))");
        no("same(n2(1,2,3),n2(1,2,4))");
        gives("same(n2(A,2),n2(1,B))", "1,2");
        gives("same(A,B),same(B,3)", "3,3");
        gives("same(A,A)", "A");
        gives("same(A,B),same(B,A)", "A,A");
        gives("same(n2(A,B),n2(B,n3(C)))", "n3(A),n3(A),A");
        no("same(A,n2(A))");
        no("same(n2(A,B),n2(n3(B),n3(A)))");
        no("same(A,n2(B)),same(B,n2(C)),same(C,A)");
        yes("same(A,n2(B)),same(B,n2(C)),same(C,D)");
        no("same(A,1),same(A,2)");
        yes("same(-268435456,-268435456)");
    }

    /** n9 gives terms that are unified with themselves in 3, 31 and 255 pairs. */
    private static GoalEngine withPairs() {
        return Talk.engineWith("n2(A,n7(A,A))", "n9(A,D,G),n2(0,A),n2(A,B),n2(B,C),n2(C,D),n2(D,E),n2(E,F),n2(F,G)",
                "n10(A,A)");
    }

    private void pairs() {
        String of300 = "n9(A,B,C),n2(A,D),same(E,n6(C,B,n6(D,A,n5(0)))),";
        check.due("300 pairs", 1, () -> outcome(withPairs(), of300 + "same(E,E)"));
        String of301 = "n9(A,B,C),n2(A,D),same(E,n6(C,B,n6(D,A,n5(n5(0))))),";
        throwsAndIsOver(of301 + "same(E,E)", LIMIT, withPairs());
        check.due("fails before", 0, () -> outcome(withPairs(), of301 + "same(n3(1,E),n3(2,E))"));
        throwsAndIsOver(of301 + "same(n3(E,1),n3(E,2))", LIMIT, withPairs());
        String of298 = "n9(A,B,C),n2(A,D),same(E,n6(C,B,n6(D,A))),";
        check.due("298 and 2 of the head", 1, () -> outcome(withPairs(), of298 + "n10(E,E)"));
        String of299 = "n9(A,B,C),n2(A,D),same(E,n6(C,B,n6(D,A,0))),";
        throwsAndIsOver(of299 + "n10(E,E)", LIMIT, withPairs());
        check.due("299 twice", 1, () -> outcome(withPairs(), of299 + "same(E,E),same(E,E)"));
    }

    private void calculating() {
        gives("is(A,5)", "5");
        gives("is(A,sum(2,3))", "5");
        gives("is(A,diff(2,3))", "-1");
        gives("is(A,prod(-2,3))", "-6");
        gives("is(A,quot(7,2)),is(B,quot(-7,2)),is(C,quot(7,-2)),is(D,quot(-7,-2))", "3,-3,-3,3");
        gives("is(A,diff(sum(1,prod(2,3)),quot(9,4)))", "5");
        gives("same(A,3),is(B,prod(A,A))", "3,9");
        gives("same(A,sum(1,2)),is(B,prod(A,A))", "sum(1,2),9");
        gives("is(A,sum(268435455,1))", "-268435456");
        gives("is(A,diff(-268435456,1))", "268435455");
        gives("is(A,prod(16384,16384))", "-268435456");
        gives("is(A,prod(268435455,268435455))", "1");
        gives("is(A,quot(-268435456,-1))", "-268435456");
        gives("is(A,quot(sum(268435455,1),2))", "-134217728");
        yes("is(3,sum(1,2))");
        no("is(4,sum(1,2))");
        no("is(nil,1)");
        no("is(sum(1,2),3)");
        error("is(A,quot(1,0))");
        error("is(A,quot(1,diff(2,2)))");
        error("is(A,B)");
        error("is(A,A)");
        error("is(A,nil)");
        error("is(A,n28)");
        error("is(A,n28(1))");
        error("is(A,n28(1,2,3))");
        error("is(A,n27(1,2))");
        error("is(A,sum(1,nil))");
        error("is(A,sum(nil,1))");
        error("is(nil,nil)");
    }

    private void comparing() {
        yes("less(1,2)");
        no("less(2,2)");
        no("less(3,2)");
        yes("less(-268435456,268435455)");
        yes("equal(2,sum(1,1))");
        no("equal(2,3)");
        yes("less(sum(1,1),prod(2,2))");
        error("less(A,1)");
        error("less(1,A)");
        error("equal(nil,nil)");
        error("equal(A,A)");
        error("equal(1,quot(1,0))");
    }

    /** D is a sum of 15 sums; the four sums of the long term come to 15 + 7 + 3 + 1 and themselves. */
    private void thirtyOperations() {
        String chain = "n2(1,A),n2(A,B),n2(B,C),n2(C,D),";
        GoalEngine x = Talk.engineWith("n2(A,sum(A,A))");
        check.due("30 of the four", 1, () -> outcome(x, chain + "is(E,sum(D,sum(C,sum(B,sum(A,1)))))"));
        check.due("what they give", "249", "" + x.word(x.words() - 1));
        throwsAndIsOver(chain + "is(E,sum(D,D))", ERROR, Talk.engineWith("n2(A,sum(A,A))"));
        check.due("30 in each of two terms", 1,
                () -> outcome(x, chain + "same(E,sum(D,sum(C,sum(B,sum(A,1))))),equal(E,E)"));
        throwsAndIsOver(chain + "less(0,sum(D,D))", ERROR, Talk.engineWith("n2(A,sum(A,A))"));
    }

    private void namesThatMeanNothing() {
        no("n24(1)");
        no("n24");
        no("n25(A,1,1)");
        no("n26(1)");
        no("sum(1,2)");
        no("quot(1,0)");
        no("n2(1)", "n2", "n2(1,1)");
        yes("n2(1)", "n2", "n2(1,1)", "n2(1)");
    }

    private void otherWays() {
        GoalEngine x = Talk.engineWith("n2(1)", "n3(7)", "n2(2)", "n2(3)");
        Talk.ask(x, "n2(A)");
        check.dueThrow("next before an answer", STATE, () -> x.next() ? 1 : 0);
        for (int i = 1; i <= 3; i++) {
            int number = i;
            check.due("answer " + i, 1, () -> x.solve(20));
            check.due("answer " + i, Talk.row("" + i), Talk.answer(x));
            check.due("choices", number < 3 ? 1 : 0, () -> x.count(1));
            check.due("tank", 300 - number, () -> x.count(3));
            check.due("next", number < 3 ? 1 : 0, () -> x.next() ? 1 : 0);
            check.due("choices, after next", 0, () -> x.count(1));
            check.due("goals, after next", number < 3 ? 1 : 0, () -> x.count(2));
            check.due("cells, after next", number < 3 ? 3 : 0, () -> x.count(0));
            check.due("words, after next", 0, x::words);
            check.due("next takes no step", 300 - number, () -> x.count(3));
        }
        check.dueThrow("next when it is over", STATE, () -> x.next() ? 1 : 0);
        check.dueThrow("solve when it is over", STATE, () -> x.solve(1));
    }

    private void bindingsAreUndone() {
        gives("n2(A,B),same(A,2)", "2,n3(A)", "n2(1,n4)", "n2(A,n3(B))");
        gives("same(A,n3(B)),n2(B),less(1,B)", "n3(2),2", "n2(1)", "n2(2)");
        gives("n2(A),n2(B),less(B,A)", "2,1", "n2(1)", "n2(2)");
        gives("n2(n4(A,B),C)", "A,B,2", "n2(n4(1,nil),1),n9", "n2(A,2)");
    }

    private void goalsGoInOrder() {
        GoalEngine x = Talk.engineWith("n2(A,B),n3(A),n4(B)", "n3(1)", "n3(2)", "n4(5)", "n4(6)");
        Talk.ask(x, "n2(A,B)");
        StringBuilder got = new StringBuilder();
        for (int i = 0; i < 4; i++) {
            x.solve(20);
            got.append(Talk.answer(x)).append(';');
            x.next();
        }
        check.due("all ways", "9 41;9 49;17 41;17 49;", got.toString());
    }

    private void cuts() {
        GoalEngine x = Talk.engineWith("n2(A),n3(A),!", "n2(9)", "n3(1)", "n3(2)", "n4(1)", "n4(2)");
        Talk.ask(x, "n4(A),n2(B)");
        check.due("first answer", 1, () -> x.solve(20));
        check.due("choices older than the rule stay", 1, () -> x.count(1));
        check.due("next", 1, () -> x.next() ? 1 : 0);
        check.due("second answer", 1, () -> x.solve(20));
        check.due("second answer", Talk.row("2,1"), Talk.answer(x));
        check.due("no choice", 0, () -> x.count(1));
        check.due("no other", 0, () -> x.next() ? 1 : 0);
        check.due("a cut in the question", 1, () -> outcome(x, "n4(A),n3(B),!"));
        check.due("gives up all", 0, () -> x.count(1));
        no("n4(A),!,less(1,A)", "n4(1)", "n4(2)");
        yes("!");
        yes("n2(2)", "n2(A),n5,!,same(A,1)", "n2(2)", "n2(3),n5");
        no("n2(2)", "n2(A),!,same(A,1)", "n2(2)");
        // The cut of the first rule for n2 comes when the search has fewer choices than before, and gives up none.
        gives("n6(A),n2(B),less(1,A)", "2,1", "n6(1)", "n6(2)", "n2(1),!,!");
        // A goal that a choice brings back keeps its height.
        gives("n6(A),n2(B),less(1,B)", "1,2", "n6(1)", "n6(2)", "n2(A),n7(A,B),!,n8(A)", "n2(5)", "n7(1,1),n9",
                "n7(2,1)", "n8(2),n6(2),!");
    }

    private void stopping() {
        GoalEngine x = Talk.engineWith("n2(1)", "n2(2)");
        x.stop();
        check.dueThrow("no search", STATE, () -> x.solve(1));
        Talk.ask(x, "n2(A)");
        x.solve(1);
        x.stop();
        check.due("no words", 0, x::words);
        check.dueThrow("no next", STATE, () -> x.next() ? 1 : 0);
        check.dueThrow("no solve", STATE, () -> x.solve(1));
        for (int i = 0; i <= 2; i++) {
            int which = i;
            check.due("count(" + i + ")", 0, () -> x.count(which));
        }
        check.due("tank", 299, () -> x.count(3));
        Talk.ask(x, "n2(A),n2(B),n2(C)");
        x.solve(1);
        x.stop();
        check.due("no choices", 0, () -> x.count(1));
        check.due("no goals", 0, () -> x.count(2));
        x.put(2);
        x.stop();
        check.due("what is typed stays", 1, () -> x.count(5));
        check.due("rules stay", 2, () -> x.count(4));
    }

    /** The most goals that can ever be at hand: 29 for one, at each step of a full tank. */
    private void manyGoals() {
        StringBuilder rule = new StringBuilder("n2");
        for (int i = 0; i < 29; i++) {
            rule.append(",n2");
        }
        GoalEngine x = Talk.engineWith(rule.toString(), "n2");
        Talk.ask(x, rule.toString());
        for (int i = 0; i < 15; i++) {
            check.due("goes on", 2, () -> x.solve(20));
        }
        check.due("goals", 30 + 300 * 28, () -> x.count(2));
        check.due("choices", 300, () -> x.count(1));
        check.due("collect", 0, x::collect);
        check.due("goals", 30 + 300 * 28, () -> x.count(2));
    }

    public static void main(String[] args) {
        SolvingTest test = new SolvingTest();
        test.steps();
        test.tank();
        test.tankEndsInTheMiddle();
        test.errorsTakeAStep();
        test.unifying();
        test.pairs();
        test.calculating();
        test.comparing();
        test.thirtyOperations();
        test.namesThatMeanNothing();
        test.otherWays();
        test.bindingsAreUndone();
        test.goalsGoInOrder();
        test.cuts();
        test.stopping();
        test.manyGoals();
        test.check.end();
    }
}
