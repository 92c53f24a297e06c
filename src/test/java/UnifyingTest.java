/** The section Terms, unifying: each kind of pair, and the 300 pairs. */
public final class UnifyingTest {
    private final Check check = new Check();

    private void yes(String question, String... rules) {
        check.due(question, 1, () -> Talk.outcome(Talk.engineWith(rules), question));
    }

    private void no(String question, String... rules) {
        check.due(question, 0, () -> Talk.outcome(Talk.engineWith(rules), question));
    }

    private void tooMuch(String question, GoalEngine x) {
        check.dueThrow(question, UnsupportedOperationException.class, () -> Talk.outcome(x, question));
        check.due(question + ": no cells then", 0, () -> x.count(0));
        check.due(question + ": no choices then", 0, () -> x.count(1));
        check.due(question + ": no goals then", 0, () -> x.count(2));
        check.dueThrow(question + ": over then", IllegalStateException.class, () -> x.solve(1));
        check.due(question + ": a rule may come then", x.count(4) + 1, () -> Talk.rule(x, "n22"));
    }

    private void gives(String question, String answer, String... rules) {
        GoalEngine x = Talk.engineWith(rules);
        check.due(question, 1, () -> Talk.outcome(x, question));
        check.due(question, Talk.row(answer), Talk.answer(x));
    }

    /** "the same variable twice: done": nothing is bound, and it does not occur in itself. */
    private void sameVariable() {
        gives("same(A,A)", "A");
        gives("same(A,A),same(A,1)", "1");
        gives("same(n2(A,A),n2(A,1))", "1");
        gives("same(A,B),same(B,A)", "A,A");
        gives("same(A,B),same(A,B),same(B,5)", "5,5");
    }

    /** "A variable that is not bound and another term: it is bound to that", on whichever side it stands. */
    private void variableAndTerm() {
        gives("same(A,1)", "1");
        gives("same(1,A)", "1");
        gives("same(A,nil)", "nil");
        gives("same(A,n2(1,2))", "n2(1,2)");
        gives("same(n2(1,2),A)", "n2(1,2)");
        gives("same(n2(A,2),n2(1,B))", "1,2");
        no("same(A,1),same(A,2)");
        no("same(A,1),same(2,A)");
        no("same(A,n2(B)),same(A,n2)");
    }

    /** "unless it occurs in it (then unifying fails)" */
    private void occurs() {
        no("same(A,n2(A))");
        no("same(n2(A),A)");
        no("same(A,n2(1,2,A))");
        no("same(A,n2(n3(n4(A))))");
        no("same(n2(A,B),n2(n3(B),n3(A)))");
        no("same(A,n2(B)),same(B,n2(C)),same(C,A)");
        no("same(B,A),same(A,n2(B))");
        no("n2(A,n3(A))", "n2(B,B)");
        yes("same(A,n2(B))");
        yes("same(A,n2(B)),same(B,n2(C)),same(C,D)");
        yes("same(A,n2(B)),same(B,1)");
        // An occurring variable only makes a way fail; another one is tried.
        gives("n2(A,n3(A))", "1", "n2(B,B)", "n2(1,B)");
    }

    /** The rule ends with n5 of one variable: if that is bound, the other one lives, too. */
    private void isBound(String rule, boolean due) {
        GoalEngine x = Talk.engineWith(rule);
        Talk.ask(x, "n2");
        check.due(rule + ": n2 and the pair", 2, () -> x.solve(2));
        check.due(rule + ": cells freed", x.count(0) - (due ? 4 : 3), x::collect);
    }

    /** "of two variables the one whose cell was taken later is bound to the other one" */
    private void laterVariableIsBound() {
        isBound("n2,same(A,B),n5(A)", false);
        isBound("n2,same(B,A),n5(A)", false);
        isBound("n2,same(A,B),n5(B)", true);
        isBound("n2,same(B,A),n5(B)", true);
        // The order is that of the values, not of the places.
        isBound("n2,same(H,G),n5(G)", false);
        isBound("n2,same(H,G),n5(H)", true);
    }

    /** A collection in between moves both, and "those that are left keep their order". */
    private void laterVariableIsBoundAfterACollection() {
        for (String pair : new String[] {"same(A,B)", "same(B,A)"}) {
            GoalEngine x = Talk.engineWith("n2,n3(1),n4(A),n5(A)", "n3(1)", "n4(A),n3(1)," + pair);
            Talk.ask(x, "n2");
            Talk.steps(x, 3);
            check.dueTrue("there is something to free", x.collect() > 0);
            check.due("n3, then the pair", 2, () -> x.solve(2));
            // If the older variable were bound, the later one would live, too.
            check.due(pair + ": n5 and its variable live", x.count(0) - 3, x::collect);
        }
    }

    /** "a term that is a bound variable means that to which it is bound": C is bound to A, not to B. */
    private void boundVariablesMeanTheirTerms() {
        GoalEngine x = Talk.engineWith("n2,same(B,A),same(C,B),n5(C)");
        Talk.ask(x, "n2");
        check.due("n2 and both pairs", 2, () -> x.solve(3));
        check.due("n5, C and A live", x.count(0) - 4, x::collect);
        gives("same(A,B),same(B,C),same(C,n2(D)),same(n2(1),A)", "n2(1),n2(1),n2(1),1");
        no("same(A,B),same(B,1),same(A,2)");
    }

    /** "Two numbers, or names without arguments: fails unless they are the same." */
    private void numbersAndNames() {
        yes("same(1,1)");
        no("same(1,2)");
        no("same(1,-1)");
        yes("same(-268435456,-268435456)");
        yes("same(268435455,268435455)");
        no("same(-268435456,268435455)");
        yes("same(nil,nil)");
        yes("same(n31,n31)");
        no("same(nil,n1)");
        no("same(n30,n31)");
        no("same(0,n0)");
        no("same(n0,0)");
    }

    /** "Two names with the same value and number of arguments .. Otherwise it fails." */
    private void namesWithArguments() {
        yes("same(n2(1),n2(1))");
        yes("same(n2(1,2,3),n2(1,2,3))");
        no("same(n2(1,2,3),n2(0,2,3))");
        no("same(n2(1,2,3),n2(1,0,3))");
        no("same(n2(1,2,3),n2(1,2,0))");
        no("same(n2(1),n3(1))");
        no("same(n2(1),n2(1,1))");
        no("same(n2(1,1),n2(1))");
        no("same(n2(1,1),n2(1,1,1))");
        no("same(n2,n2(1))");
        no("same(n2(1),n2)");
        no("same(n2(1),1)");
        no("same(1,n2(1))");
        // Names that mean something as goals or in what is calculated mean nothing here.
        no("same(3,sum(1,2))");
        yes("same(sum(1,2),sum(1,2))");
        yes("same(same(1,2),same(1,2))");
        gives("same(n2(A,B),n2(B,n3(C)))", "n3(A),n3(A),A");
    }

    /** n9 gives terms that are unified with themselves in 3, 31 and 255 pairs, and n2 takes one from 3 to 7. */
    private static GoalEngine withPairs() {
        return Talk.engineWith("n2(A,n7(A,A))", "n9(A,D,G),n2(0,A),n2(A,B),n2(B,C),n2(C,D),n2(D,E),n2(E,F),n2(F,G)",
                "n10(A,A)", "n10(A,B)");
    }

    private static final String TERMS = "n9(A,B,C),n2(A,D),";
    private static final String OF_298 = TERMS + "same(E,n6(C,B,n6(D,A))),";
    private static final String OF_299 = TERMS + "same(E,n6(C,B,n6(D,A,0))),";
    private static final String OF_300 = TERMS + "same(E,n6(C,B,n6(D,A,n5(0)))),";
    private static final String OF_301 = TERMS + "same(E,n6(C,B,n6(D,A,n5(n5(0))))),";

    /** "It is TOO MUCH if it would look at more than 300 pairs": 300 go, 301 do not. */
    private void threeHundredPairs() {
        check.due("299 pairs", 1, () -> Talk.outcome(withPairs(), OF_299 + "same(E,E)"));
        check.due("300 pairs", 1, () -> Talk.outcome(withPairs(), OF_300 + "same(E,E)"));
        tooMuch(OF_301 + "same(E,E)", withPairs());
    }

    /** The first pair of a rule is its head and the goal, and choices do not help when it is too much. */
    private void threeHundredPairsOfAHead() {
        check.due("298 and 2 of the head", 1, () -> Talk.outcome(withPairs(), OF_298 + "n10(E,E)"));
        tooMuch(OF_299 + "n10(E,E)", withPairs());
    }

    /** A pair that is looked at as the 300th can still make it fail; the 301st is never looked at. */
    private void failingAtTheLastPair() {
        String differ300 = "same(n6(C,B,n6(D,A,n5(0))),n6(C,B,n6(D,A,n5(1))))";
        check.due("the 300th fails", 0, () -> Talk.outcome(withPairs(), TERMS + differ300));
        String differ301 = "same(n6(C,B,n6(D,A,n5(n5(0)))),n6(C,B,n6(D,A,n5(n5(1)))))";
        tooMuch(TERMS + differ301, withPairs());
    }

    /** A pair of one variable counts, too. */
    private void pairsOfVariablesCount() {
        String same300 = "same(E,n6(C,B,n6(D,A,n5(F)))),same(E,E)";
        check.due("the 300th is a variable", 1, () -> Talk.outcome(withPairs(), TERMS + same300));
        tooMuch(TERMS + "same(E,n6(C,B,n6(D,A,n5(n5(F))))),same(E,E)", withPairs());
        String bound300 = "same(n6(C,B,n6(D,A,n5(F))),n6(C,B,n6(D,A,n5(7))))";
        check.due("the 300th is bound", 1, () -> Talk.outcome(withPairs(), TERMS + bound300));
        tooMuch(TERMS + "same(n6(C,B,n6(D,A,n5(n5(F)))),n6(C,B,n6(D,A,n5(n5(7)))))", withPairs());
    }

    /** "from the first one on, each with all that comes of it": what fails before the limit only fails. */
    private void orderOfPairs() {
        check.due("fails before", 0, () -> Talk.outcome(withPairs(), OF_301 + "same(n3(1,E),n3(2,E))"));
        tooMuch(OF_301 + "same(n3(E,1),n3(E,2))", withPairs());
        tooMuch(OF_301 + "same(n3(n4(E),1,0),n3(n4(E),2,0))", withPairs());
    }

    /** Each unifying has its own 300. */
    private void pairsAreNotAddedUp() {
        check.due("299 twice", 1, () -> Talk.outcome(withPairs(), OF_299 + "same(E,E),same(E,E)"));
    }

    public static void main(String[] args) {
        UnifyingTest test = new UnifyingTest();
        test.sameVariable();
        test.variableAndTerm();
        test.occurs();
        test.laterVariableIsBound();
        test.laterVariableIsBoundAfterACollection();
        test.boundVariablesMeanTheirTerms();
        test.numbersAndNames();
        test.namesWithArguments();
        test.threeHundredPairs();
        test.threeHundredPairsOfAHead();
        test.failingAtTheLastPair();
        test.pairsOfVariablesCount();
        test.orderOfPairs();
        test.pairsAreNotAddedUp();
        test.check.end();
    }
}
