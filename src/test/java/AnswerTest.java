/** Promises 10 and 11: words and word. */
public final class AnswerTest {
    private static final Class<IndexOutOfBoundsException> INDEX = IndexOutOfBoundsException.class;
    private final Check check = new Check();

    private GoalEngine answered(String question, String... rules) {
        GoalEngine x = Talk.engineWith(rules);
        Talk.ask(x, question);
        check.due("no answer yet to " + question, 0, x::words);
        check.dueThrow("no word yet", INDEX, () -> x.word(0));
        check.due("answer to " + question, 1, () -> x.solve(20));
        return x;
    }

    private void gives(String question, String due, String... rules) {
        GoalEngine x = answered(question, rules);
        int length = Talk.words(due).length;
        check.due("words of " + question, length, x::words);
        check.due("answer to " + question, Talk.row(due), Talk.answer(x));
        for (int i : new int[] {-1, length, length + 1, Integer.MIN_VALUE, Integer.MAX_VALUE}) {
            check.dueThrow("word(" + i + ")", INDEX, () -> x.word(i));
        }
        x.collect();
        check.due("after a collection " + question, Talk.row(due), Talk.answer(x));
    }

    private void answers() {
        gives("n2", "", "n2");
        gives("!", "");
        gives("n2(A)", "A", "n2(B)");
        gives("n2(H,C)", "2,1", "n2(1,2)");
        gives("same(D,E)", "A,A");
        gives("same(B,n2(F,C))", "n2(A,B),B,A");
        gives("same(A,1),same(B,B)", "1,A");
        gives("same(G,n3(E,B)),same(B,nil)", "nil,A,n3(A,nil)");
        gives("same(A,n2(B)),same(B,n3(-5,n4))", "n2(n3(-5,n4)),n3(-5,n4)");
        gives("n2(B),same(C,D)", "n3(A,B,A),C,C", "n2(n3(G,F,G))");
        gives("same(A,sum(1,2))", "sum(1,2)");
    }

    private void moreThanEightVariables() {
        GoalEngine x = answered("n3(A),n3(B),n3(C)", "n3(n6(A,B,C))");
        check.due("nine variables", "53 0 8 16 53 24 32 40 53 48 56 64", Talk.answer(x));
    }

    private static final String TERMS = "n2(1,A),n2(A,B),n2(B,C),n2(C,D),same(E,D),same(F,1),same(G,2)";
    private static final String PAIRING = "n2(A,n7(A,A))";

    /** "but only the first 90 words": A to G have 3, 7, 15, 31, 31, 1 and 1. */
    private void ninetyWords() {
        GoalEngine of89 = answered(TERMS, PAIRING);
        check.due("89 words", 89, of89::words);
        check.due("the last of 89", 17, () -> of89.word(88));
        check.dueThrow("no word 89", INDEX, () -> of89.word(89));
        GoalEngine of90 = answered(TERMS + ",same(H,3)", PAIRING);
        check.due("90 words", 90, of90::words);
        check.due("the last of 90", 25, () -> of90.word(89));
        check.dueThrow("no word 90", INDEX, () -> of90.word(90));
        GoalEngine of91 = answered(TERMS + ",same(H,n5(3))", PAIRING);
        check.due("90 of 91 words", 90, of91::words);
        check.due("the last but one of 91", 8 * 5 + 3, () -> of91.word(89));
        check.dueThrow("not the last one", INDEX, () -> of91.word(90));
    }

    /** The limit may come in the middle of a term, or before the last variables: C has 127. */
    private void farMoreThanNinetyWords() {
        GoalEngine x = answered("n2(1,A),n2(A,B),n2(B,D),n2(D,E),n2(E,F),n2(F,C)", PAIRING);
        check.due("A, B and some of C", 90, x::words);
        check.due("word 0", 60, () -> x.word(0));
        check.due("word 3", 60, () -> x.word(3));
        check.due("word 10", 60, () -> x.word(10));
        check.due("word 16", 9, () -> x.word(16));
        check.dueThrow("word 90", INDEX, () -> x.word(90));
        x.collect();
        check.due("after a collection", 90, x::words);
        GoalEngine y = answered("n2(1,A),n2(A,B),n2(B,C),n2(C,D),n2(D,E),same(F,1)", PAIRING);
        check.due("3, 7, 15, 31, 34 of 63, and none of F", 90, y::words);
        check.dueThrow("word 90", INDEX, () -> y.word(90));
    }

    /** Without the limit this term would have 3 to the power of 18 leaves. */
    private void hugeAnswer() {
        GoalEngine x = Talk.engineWith("n2(0,A),!", "n2(A,n6(B,B,B)),is(C,diff(A,1)),n2(C,B)");
        Talk.ask(x, "n2(18,A)");
        x.solve(20);
        x.solve(20);
        // Three steps for each of the 18, and two for the last one.
        check.due("answer", 1, () -> x.solve(16));
        check.due("ninety", 90, x::words);
        check.due("the leaf", 0, () -> x.word(18));
        check.due("again", 0, () -> x.word(20));
    }

    private void noAnswer() {
        GoalEngine x = answered("n2(A)", "n2(1)", "n2(2)");
        check.due("one word", 1, x::words);
        x.next();
        check.due("none after next", 0, x::words);
        check.dueThrow("none after next", INDEX, () -> x.word(0));
        x.solve(1);
        check.due("one word", 1, x::words);
        check.due("the word", 17, () -> x.word(0));
        x.next();
        check.due("none when it is over", 0, x::words);
        check.dueThrow("none when it is over", INDEX, () -> x.word(0));
        Talk.ask(x, "n2(A)");
        x.solve(1);
        x.stop();
        check.due("none when it is stopped", 0, x::words);
        check.dueThrow("none when it is stopped", INDEX, () -> x.word(0));
    }

    public static void main(String[] args) {
        AnswerTest test = new AnswerTest();
        test.answers();
        test.moreThanEightVariables();
        test.ninetyWords();
        test.farMoreThanNinetyWords();
        test.hugeAnswer();
        test.noAnswer();
        test.check.end();
    }
}
