import java.lang.management.ManagementFactory;
import java.util.function.Consumer;

/**
 * All calls of one run live in one room of 600,000 objects and 7.3 million fields and elements, so rows are made in
 * the constructor and used again. What is measured are bytes, of which an element takes one at the least.
 */
public final class AllocationTest {
    private static final long MOST_FOR_OBJECT = 40_000;
    private static final long MOST_FOR_GOALS = 600_000;
    /** Less than an object for each call comes to, and yet not nothing, should Java make something of its own. */
    private static final long MOST_FOR_CALLS = 1_000;
    private static final int[] QUESTION = {8 * 2 + 4, 0, 8};

    private static final com.sun.management.ThreadMXBean THREADS =
            (com.sun.management.ThreadMXBean) ManagementFactory.getThreadMXBean();

    private final Check check = new Check();

    /** The first time is for what Java itself makes when it meets code that it has not met before. */
    private static <T> long bytesOf(Consumer<T> calls, T first, T second) {
        calls.accept(first);
        long before = THREADS.getCurrentThreadAllocatedBytes();
        calls.accept(second);
        return THREADS.getCurrentThreadAllocatedBytes() - before;
    }

    private void newObject() {
        GoalEngine[] kept = new GoalEngine[1];
        long bytes = bytesOf(place -> place[0] = new GoalEngine(), kept, kept);
        check.dueTrue("a new object took " + bytes + " bytes", bytes <= MOST_FOR_OBJECT);
    }

    private static GoalEngine withAnswer() {
        GoalEngine engine = Talk.engineWith("n2(A,cons(A,B))", "n2(A,cons(B,C)),n2(A,C)");
        Talk.outcome(engine, "n2(A,cons(1,cons(2,cons(3,nil)))),is(B,sum(A,1)),same(C,n3(D,E,F))");
        return engine;
    }

    /** 400 calls. */
    private static void readAnswer(GoalEngine engine) {
        for (int i = 0; i < 100; i++) {
            engine.count(i % 7);
            engine.collect();
            engine.word(i % engine.words());
        }
    }

    /** 420 calls. */
    private static void searchAgain(GoalEngine engine) {
        for (int i = 0; i < 70; i++) {
            for (int word : QUESTION) {
                engine.put(word);
            }
            engine.ask();
            engine.solve(3);
            engine.stop();
        }
    }

    /** Nothing is made by a call that needs no more goals than there were places for. */
    private void ordinaryCalls() {
        long reading = bytesOf(AllocationTest::readAnswer, withAnswer(), withAnswer());
        check.dueTrue("reading an answer took " + reading + " bytes", reading <= MOST_FOR_CALLS);
        long searching = bytesOf(AllocationTest::searchAgain, withAnswer(), withAnswer());
        check.dueTrue("searching again took " + searching + " bytes", searching <= MOST_FOR_CALLS);
    }

    /** Each step takes one goal and brings as many as a body of 29 words has. */
    private static GoalEngine withLongestBody() {
        GoalEngine engine = Talk.engineWith("n2" + ",n2".repeat(29));
        Talk.ask(engine, "n2");
        return engine;
    }

    private static void emptyTank(GoalEngine engine) {
        for (int left = 300; left > 0; left -= 20) {
            engine.solve(20);
        }
    }

    private void mostGoals() {
        GoalEngine engine = withLongestBody();
        long bytes = bytesOf(AllocationTest::emptyTank, withLongestBody(), engine);
        check.due("goals at hand", 1 + 300 * 28, () -> engine.count(2));
        check.dueTrue("the most goals took " + bytes + " bytes", bytes <= MOST_FOR_GOALS);
    }

    public static void main(String[] args) {
        AllocationTest test = new AllocationTest();
        test.newObject();
        test.ordinaryCalls();
        test.mostGoals();
        test.check.end();
    }
}
