/** The section Terms, calculating: the range of numbers, quotients, errors, and the 30 of the four. */
public final class CalculatingTest {
    private static final int LEAST = -(1 << 28);
    private static final int GREATEST = (1 << 28) - 1;
    private static final String[] THE_FOUR = {"sum", "diff", "prod", "quot"};
    private final Check check = new Check();

    private void yes(String question) {
        check.due(question, 1, () -> Talk.outcome(new GoalEngine(), question));
    }

    private void no(String question) {
        check.due(question, 0, () -> Talk.outcome(new GoalEngine(), question));
    }

    private void error(String question, String... rules) {
        GoalEngine x = Talk.engineWith(rules);
        check.dueThrow(question, ArithmeticException.class, () -> Talk.outcome(x, question));
        check.due(question + ": no cells then", 0, () -> x.count(0));
        check.due(question + ": no choices then", 0, () -> x.count(1));
        check.due(question + ": no goals then", 0, () -> x.count(2));
        check.dueThrow(question + ": over then", IllegalStateException.class, () -> x.solve(1));
        check.due(question + ": a rule may come then", x.count(4) + 1, () -> Talk.rule(x, "n22"));
    }

    private void gives(String question, String answer) {
        GoalEngine x = new GoalEngine();
        check.due(question, 1, () -> Talk.outcome(x, question));
        check.due(question, Talk.row(answer), Talk.answer(x));
    }

    private void isNumber(String term, long due) {
        gives("is(A," + term + ")", Long.toString(due));
    }

    private void isNumber(String operation, int first, int second, long due) {
        isNumber(operation + "(" + first + "," + second + ")", due);
    }

    /** "a number is itself" */
    private void numbers() {
        for (int number : new int[] {0, 1, -1, LEAST, GREATEST}) {
            isNumber(Integer.toString(number), number);
        }
    }

    /** "one of the four gives what its calculated arguments give" */
    private void theFour() {
        isNumber("sum", 2, 3, 5);
        isNumber("diff", 2, 3, -1);
        isNumber("prod", -2, 3, -6);
        isNumber("quot", 6, 3, 2);
        isNumber("diff(sum(1,prod(2,3)),quot(9,4))", 5);
        gives("same(A,3),is(B,prod(A,A))", "3,9");
        gives("same(A,sum(1,2)),is(B,prod(A,A))", "sum(1,2),9");
    }

    /** "(results go round within the range of numbers)": the last result that stays, and the first that goes round. */
    private void resultsGoRound() {
        isNumber("sum", GREATEST, 0, GREATEST);
        isNumber("sum", GREATEST - 1, 1, GREATEST);
        isNumber("sum", GREATEST, 1, LEAST);
        isNumber("sum", GREATEST, GREATEST, -2);
        isNumber("sum", LEAST + 1, -1, LEAST);
        isNumber("sum", LEAST, -1, GREATEST);
        isNumber("sum", LEAST, LEAST, 0);
        isNumber("diff", LEAST + 1, 1, LEAST);
        isNumber("diff", LEAST, 1, GREATEST);
        isNumber("diff", GREATEST, -1, LEAST);
        isNumber("diff", -1, GREATEST, LEAST);
        isNumber("diff", 0, LEAST, LEAST);
        isNumber("prod", 16384, 16383, (1 << 28) - 16384);
        isNumber("prod", 16384, 16384, LEAST);
        isNumber("prod", -16384, 16384, LEAST);
        isNumber("prod", 134217727, 2, GREATEST - 1);
        isNumber("prod", 134217728, 2, LEAST);
        isNumber("prod", GREATEST, GREATEST, 1);
        isNumber("prod", LEAST, LEAST, 0);
        isNumber("prod", LEAST, -1, LEAST);
        isNumber("prod", GREATEST, -1, LEAST + 1);
        isNumber("quot", LEAST, 1, LEAST);
        isNumber("quot", LEAST + 1, -1, GREATEST);
        isNumber("quot", LEAST, -1, LEAST);
    }

    /** Each result goes round, not only the last one. */
    private void resultsInsideGoRound() {
        isNumber("quot(sum(" + GREATEST + ",1),2)", LEAST / 2);
        isNumber("quot(prod(65536,65536),3)", 0);
        yes("less(sum(" + GREATEST + ",1),0)");
        yes("equal(sum(" + GREATEST + ",1)," + LEAST + ")");
    }

    /** Products of any size go round exactly. */
    private void largeProducts() {
        int[] numbers = {123456789, -98765432, 268435399, -7, 46341, 65537};
        for (int first : numbers) {
            for (int second : numbers) {
                long due = Math.floorMod((long) first * second - LEAST, 1L << 29) + LEAST;
                isNumber("prod", first, second, due);
            }
        }
    }

    /** "31 QUOTIENT (towards 0)" */
    private void quotientsTowardsZero() {
        isNumber("quot", 7, 2, 3);
        isNumber("quot", -7, 2, -3);
        isNumber("quot", 7, -2, -3);
        isNumber("quot", -7, -2, 3);
        isNumber("quot", 1, 2, 0);
        isNumber("quot", -1, 2, 0);
        isNumber("quot", 2, 2, 1);
        isNumber("quot", -2, 2, -1);
        isNumber("quot", GREATEST, LEAST, 0);
        isNumber("quot", LEAST, GREATEST, -1);
    }

    /** "A quotient by 0 .. is an ERROR", by 1 and by -1 it is none. */
    private void quotientByZero() {
        isNumber("quot", 5, 1, 5);
        isNumber("quot", 5, -1, -5);
        isNumber("quot", 0, 1, 0);
        error("is(A,quot(5,0))");
        error("is(A,quot(0,0))");
        error("is(A,quot(1,diff(2,2)))");
        error("is(A,quot(1,prod(" + LEAST + ",2)))");
        error("is(A,sum(1,quot(1,0)))");
        error("is(A,prod(0,quot(1,0)))");
        error("less(1,quot(1,0))");
        error("less(quot(1,0),1)");
        error("equal(quot(1,0),1)");
        error("equal(1,quot(1,0))");
    }

    /** "anything else .. is an ERROR": variables, names, names of the four with other numbers of arguments. */
    private void anythingElse() {
        String[] terms = {"B", "nil", "n2(1,2)", "n27(1,2)", "n24(1,2)", "n28", "n28(1)", "n28(1,2,3)", "n31",
            "n31(1)", "n31(1,2,3)", "sum(1,nil)", "sum(nil,1)", "sum(B,1)", "prod(0,B)"};
        for (String term : terms) {
            error("is(A," + term + ")");
            error("less(" + term + ",1)");
            error("less(1," + term + ")");
            error("equal(" + term + ",1)");
            error("equal(1," + term + ")");
        }
        error("is(A,A)");
        error("is(nil,nil)");
        error("equal(nil,nil)");
        error("equal(A,A)");
        isNumber("n28(1,2)", 3);
        isNumber("n31(4,2)", 2);
    }

    /** An error is no failing step: other ways are not tried. */
    private void errorsEndTheSearch() {
        error("n2(A),is(B,sum(A,1))", "n2(nil)", "n2(1)");
        error("n2(A),less(A,1)", "n2(nil)", "n2(0)");
    }

    /** "IS: the second one is calculated, and unified with the first one": the first one is not calculated. */
    private void isUnifies() {
        yes("is(3,sum(1,2))");
        no("is(4,sum(1,2))");
        no("is(nil,1)");
        no("is(sum(1,2),3)");
        no("is(quot(1,0),3)");
        gives("same(A,B),is(B,sum(1,2))", "3,3");
    }

    /** "it fails unless the one is less than, or equal to, the other one" */
    private void comparing() {
        yes("less(1,2)");
        no("less(2,2)");
        no("less(3,2)");
        yes("less(-1,0)");
        yes("less(" + LEAST + "," + GREATEST + ")");
        no("less(" + GREATEST + "," + LEAST + ")");
        yes("less(" + (GREATEST - 1) + "," + GREATEST + ")");
        yes("equal(2,sum(1,1))");
        no("equal(2,3)");
        no("equal(3,2)");
        no("equal(" + GREATEST + "," + LEAST + ")");
        yes("less(sum(1,1),prod(2,2))");
    }

    /** n3(30,A) gives a term with 30 of the four, one inside the other. */
    private static String[] nesting(String operation, boolean first) {
        String inner = first ? "(B,1)" : "(1,B)";
        return new String[] {"n3(0,1),!", "n3(A," + operation + inner + "),is(C,diff(A,1)),n3(C,B)"};
    }

    /** "more than 30 of the four in one term is an ERROR", whichever of them they are and wherever they stand. */
    private void thirtyOfTheFour() {
        for (String operation : THE_FOUR) {
            for (boolean first : new boolean[] {true, false}) {
                String[] rules = nesting(operation, first);
                String told = "30 times " + operation;
                check.due(told, 1, () -> Talk.outcome(Talk.engineWith(rules), "n3(30,A),is(B,A)"));
                check.due(told, 1, () -> Talk.outcome(Talk.engineWith(rules), "n3(30,A),less(A,1000)"));
                check.due(told, 1, () -> Talk.outcome(Talk.engineWith(rules), "n3(30,A),less(-1000,A)"));
                error("n3(31,A),is(B,A)", rules);
                error("n3(31,A),less(A,1000)", rules);
                error("n3(31,A),less(-1000,A)", rules);
                error("n3(31,A),equal(A,1)", rules);
            }
        }
        GoalEngine x = Talk.engineWith(nesting("sum", true));
        check.due("30 sums", 1, () -> Talk.outcome(x, "n3(30,A),is(B,A),equal(B,31)"));
    }

    /** A term that is there twice counts twice: A, B, C and D have 1, 3, 7 and 15 sums. */
    private void sharedTermsCountEachTime() {
        String chain = "n2(1,A),n2(A,B),n2(B,C),n2(C,D),";
        GoalEngine x = Talk.engineWith("n2(A,sum(A,A))");
        check.due("15 + 7 + 3 + 1 + 4", 1, () -> Talk.outcome(x, chain + "is(E,sum(D,sum(C,sum(B,sum(A,1)))))"));
        check.due("what they give", 8 * 31 + 1, () -> x.word(x.words() - 1));
        error(chain + "is(E,sum(D,D))", "n2(A,sum(A,A))");
    }

    /** "in one term": the two sides of a goal are two terms, and so are those of two goals. */
    private void thirtyInEachTerm() {
        String[] rules = nesting("sum", true);
        check.due("both sides", 1, () -> Talk.outcome(Talk.engineWith(rules), "n3(30,A),equal(A,A)"));
        check.due("two goals", 1, () -> Talk.outcome(Talk.engineWith(rules), "n3(30,A),is(B,A),is(B,A)"));
        error("n3(30,A),less(A,sum(A,1))", rules);
        error("n3(30,A),less(sum(A,1),A)", rules);
    }

    /** What is only unified is never calculated, however many of the four it has. */
    private void unifyingCountsNone() {
        check.due("31 in same", 1, () -> Talk.outcome(Talk.engineWith(nesting("sum", true)), "n3(31,A),same(B,A)"));
    }

    public static void main(String[] args) {
        CalculatingTest test = new CalculatingTest();
        test.numbers();
        test.theFour();
        test.resultsGoRound();
        test.resultsInsideGoRound();
        test.largeProducts();
        test.quotientsTowardsZero();
        test.quotientByZero();
        test.anythingElse();
        test.errorsEndTheSearch();
        test.isUnifies();
        test.comparing();
        test.thirtyOfTheFour();
        test.sharedTermsCountEachTime();
        test.thirtyInEachTerm();
        test.unifyingCountsNone();
        test.check.end();
    }
}
