import java.util.ArrayList;
import java.util.List;
import java.util.Map;
import java.util.Random;
import java.util.TreeMap;

/** Random runs of calls on a GoalEngine and on the model of the document, which must answer alike everywhere. */
public final class RandomRunsTest {
    private static final int RUNS = 6000;
    /** The document promises nothing about later calls. */
    private static final int MOST_CALLS = 512;
    /** More than one round and the comparison at the end come to. */
    private static final int LAST_CALLS = 150;
    /** Without these the runs would have passed by what is hardest. */
    private static final List<String> TO_BE_MET = List.of("ArithmeticException", "no room", "too much", "occurs",
            "collection in a step frees", "collection with choices frees", "cut gives up choices");

    /** Programs that get far, so that collections, cuts and long unifyings are met often. */
    private static final String[][] PROGRAMS = {
        {"n2(nil,A,A)", "n2(cons(A,B),C,cons(A,D)),n2(B,C,D)", "n3(nil,nil)",
            "n3(cons(A,B),C),n3(B,D),n2(D,cons(A,nil),C)"},
        {"n2(A,cons(A,B))", "n2(A,cons(B,C)),n2(A,C)", "n3(cons(A,B),A,B)", "n3(cons(A,B),C,cons(A,D)),n3(B,C,D)",
            "n4(nil,nil)", "n4(A,cons(B,C)),n3(A,B,D),n4(D,C)"},
        {"n2(0,A),!,same(A,nil)", "n2(A,cons(A,B)),is(C,diff(A,1)),n2(C,B)", "n3(A,A)",
            "n3(A,B),is(C,sum(A,1)),n3(C,B)", "n4(A,B,A),less(A,B)", "n4(A,B,C),less(A,B),is(D,sum(A,1)),n4(D,B,C)"},
        {"n2(0,0)", "n2(1,1)", "n2(A,B),less(1,A),is(C,diff(A,1)),is(D,diff(A,2)),n2(C,E),n2(D,F),is(B,sum(E,F))",
            "n3(A),n4(A),!", "n3(nil)", "n4(1)", "n4(2)", "n5(A,B),n4(A),n4(B)"},
        {"n2(A),n2(n6(A,A,A))", "n3(A,A)", "n3(A,B),same(A,n7(C,C)),n3(C,B)", "n4(A,B),same(A,B)", "n4(A,A)",
            "n5(n7(A,B),n7(C,D)),n5(A,C),n5(B,D)", "n5(nil,nil)"},
        {"n2,n2,n3", "n2,!,n3", "n3", "n3,n4", "n4,!", "n4", "n5(A),n2,n5(n6(A))", "n5(A)", "n5(n6(B)),n5(B)"},
        {"n2(A,B),n3(A),n4(A,B),n2(C,D)", "n2(A,n6(A,B))", "n3(n6(A,B)),n4(A,B)", "n3(1)", "n3(n7(A,A,B))",
            "n4(A,n7(A,C,C)),!", "n4(n6(A,B),A),n3(B)", "n4(A,A)"},
        {"n2(0,A)", "n2(A,n7(B,B)),less(0,A),is(C,diff(A,1)),n2(C,B)", "n3(0,1),!",
            "n3(A,sum(B,B)),is(C,diff(A,1)),n3(C,B)", "n4(A,A)", "n4(A,B),same(A,B)"},
    };

    private static final String[][] QUESTIONS = {
        {"n3(cons(1,cons(2,cons(3,cons(4,nil)))),A)", "n2(A,B,cons(1,cons(2,cons(3,nil))))", "n2(A,A,B)",
            "n3(A,B)", "n2(A,B,C),n3(B,D)", "n3(A,cons(1,cons(2,nil)))"},
        {"n4(cons(1,cons(2,cons(3,nil))),A)", "n2(A,cons(1,cons(B,C))),n2(2,C)", "n3(A,B,C),n4(A,D)",
            "n4(cons(1,cons(2,cons(3,nil))),A),same(A,cons(3,B)),!", "n4(A,B)"},
        {"n2(9,A)", "n3(0,A),less(5,A)", "n4(0,9,A),n4(0,9,B),less(A,B),equal(sum(A,B),12)", "n2(20,A)",
            "n2(A,B)", "n3(-5,A),equal(prod(A,A),25),n2(3,B)"},
        {"n2(5,A)", "n2(4,A),n3(B)", "n5(A,B),n3(C),n5(C,D)", "n2(7,A)", "n3(A),n5(A,B),less(A,B)"},
        {"n2(1)", "n2(A)", "n3(A,B),n4(A,B)", "n3(A,n7(B,1))", "n4(A,n7(A,A))", "n3(A,B),n3(C,D),n4(A,C)",
            "n3(A,C),n3(B,D),n5(A,B)", "n2(n7(A,B)),n3(A,B)"},
        {"n2", "n3,n4,!,n3", "n5(A)", "n5(A),n5(B),!", "n3,n3,n3", "n5(A),n3,n5(A)"},
        {"n2(A,B)", "n3(A),n4(A,B)", "n2(A,B),n2(B,C)", "n4(A,B),n4(B,C),!,n3(D)", "n3(A),n3(B),n3(C)"},
        {"n2(7,A),n2(7,B),n4(A,B)", "n2(8,A),n2(8,B),n4(A,B)", "n2(6,A),n4(A,B),n4(B,C)", "n2(5,A),n2(7,B),n4(A,B)",
            "n3(4,A),is(B,A)", "n3(5,A),is(B,A)", "n3(3,A),less(A,sum(A,A)),equal(A,8)", "n2(9,A),n4(A,A)"},
    };

    private final Random random;
    private final GoalEngine engine = new GoalEngine();
    private final ModelEngine model = new ModelEngine();
    private final StringBuilder told = new StringBuilder();
    private final int program;
    private int calls;
    private boolean differs;

    private RandomRunsTest(int seed) {
        random = new Random(seed);
        program = random.nextInt(PROGRAMS.length + 2);
    }

    private void compare(String call, Check.Call onModel, Check.Call onEngine) {
        String want = Check.answerOf(onModel);
        String got = Check.answerOf(onEngine);
        calls++;
        told.append(call).append(" -> ").append(got).append('\n');
        if (!want.equals(got) && !differs) {
            differs = true;
            System.out.println(told + "due is " + want);
        }
    }

    private void compareCount(int which) {
        compare("count(" + which + ")", () -> model.count(which), () -> engine.count(which));
    }

    private void compareWord(int i) {
        compare("word(" + i + ")", () -> model.word(i), () -> engine.word(i));
    }

    /** Not all that there is, for an object has only 512 calls. */
    private void compareSome() {
        for (int which = 0; which <= 2; which++) {
            compareCount(which);
        }
        compareCount(3 + random.nextInt(4));
        compare("words()", model::words, engine::words);
        for (int i = 0; i < 3 && model.words() > 0; i++) {
            compareWord(random.nextInt(model.words()));
        }
    }

    private void compareAll() {
        for (int which = -1; which <= 7; which++) {
            compareCount(which);
        }
        compare("words()", model::words, engine::words);
        for (int i = -1; i <= model.words(); i++) {
            compareWord(i);
        }
    }

    private void type(int[] words) {
        for (int word : words) {
            compare("put(" + word + ")", () -> model.put(word), () -> engine.put(word));
        }
    }

    private void rule() {
        compare("rule()", model::rule, engine::rule);
    }

    private void ask() {
        compare("ask()", model::ask, engine::ask);
    }

    private int[] randomTerm(int depth) {
        List<Integer> out = new ArrayList<>();
        addTerm(out, depth);
        return out.stream().mapToInt(i -> i).toArray();
    }

    private void addTerm(List<Integer> out, int depth) {
        int pick = random.nextInt(10);
        if (pick < 4 || depth == 0 && pick < 7) {
            out.add(8 * random.nextInt(3));
        } else if (pick < 5) {
            out.add(8 * (random.nextInt(4) - 1) + 1);
        } else if (pick < 6 || depth == 0) {
            out.add(8 * random.nextInt(2) + 2);
        } else {
            int arguments = 1 + random.nextInt(3);
            int name = random.nextInt(8) == 0 ? 28 + random.nextInt(4) : random.nextInt(2);
            out.add(8 * name + 2 + arguments);
            for (int i = 0; i < arguments; i++) {
                addTerm(out, depth - 1);
            }
        }
    }

    private void addGoal(List<Integer> out, boolean isHead) {
        int pick = isHead ? 3 + random.nextInt(7) : random.nextInt(10);
        if (pick == 0) {
            out.add(6);
            return;
        }
        int arguments = pick < 3 ? 2 : random.nextInt(3);
        out.add(8 * (pick < 3 ? 24 + random.nextInt(random.nextInt(4) == 0 ? 5 : 1) : 2 + random.nextInt(2))
                + 2 + arguments);
        for (int i = 0; i < arguments; i++) {
            addTerm(out, 2);
        }
    }

    private int[] randomClause(int most, boolean isRule) {
        List<Integer> out = new ArrayList<>();
        int goals = 1 + random.nextInt(most);
        for (int i = 0; i < goals; i++) {
            addGoal(out, isRule && i == 0);
        }
        return out.stream().mapToInt(i -> i).toArray();
    }

    private int[] randomQuestion() {
        if (program >= PROGRAMS.length || random.nextInt(12) == 0) {
            return randomClause(3, false);
        }
        String[] questions = QUESTIONS[program];
        return Talk.words(questions[random.nextInt(questions.length)]);
    }

    private int someWord() {
        return random.nextInt(3) == 0 ? random.nextInt() : random.nextInt(300) - 20;
    }

    private void oneCall() {
        int pick = random.nextInt(100);
        int steps = random.nextInt(4) == 0 ? 1 + random.nextInt(20) : 1 + random.nextInt(5);
        if (pick < 66) {
            compare("solve(" + steps + ")", () -> model.solve(steps), () -> engine.solve(steps));
            if (random.nextInt(3) > 0 && model.words() > 0) {
                compare("next()", () -> model.next() ? 1 : 0, () -> engine.next() ? 1 : 0);
            }
        } else if (pick < 78) {
            compare("collect()", model::collect, engine::collect);
        } else if (pick < 84) {
            compare("next()", () -> model.next() ? 1 : 0, () -> engine.next() ? 1 : 0);
        } else if (pick < 85) {
            told.append("stop()\n");
            calls++;
            model.stop();
            engine.stop();
        } else if (pick < 87) {
            int word = someWord();
            compare("put(" + word + ")", () -> model.put(word), () -> engine.put(word));
        } else if (pick < 88) {
            rule();
        } else if (pick < 89) {
            int odd = random.nextInt(60) - 20;
            compare("solve(" + odd + ")", () -> model.solve(odd), () -> engine.solve(odd));
        } else if (pick < 90) {
            type(randomTerm(3));
        } else if (model.count(0) == 0) {
            type(randomQuestion());
            ask();
        }
    }

    private boolean run() {
        int many = program < PROGRAMS.length ? PROGRAMS[program].length : 2 + random.nextInt(8);
        for (int i = 0; i < many; i++) {
            type(program < PROGRAMS.length ? Talk.words(PROGRAMS[program][i]) : randomClause(4, true));
            rule();
        }
        type(randomQuestion());
        ask();
        while (calls < MOST_CALLS - LAST_CALLS && !differs) {
            oneCall();
            compareSome();
        }
        compareAll();
        return !differs && calls <= MOST_CALLS;
    }

    public static void main(String[] args) {
        Map<String, Integer> happened = new TreeMap<>();
        int wrong = 0;
        for (int seed = 0; seed < RUNS && wrong < 3; seed++) {
            RandomRunsTest test = new RandomRunsTest(seed);
            if (!test.run()) {
                System.out.println("(seed " + seed + ")");
                wrong++;
            }
            test.model.happened.forEach((what, times) -> happened.merge(what, times, Integer::sum));
        }
        System.out.println(RUNS + " runs, " + wrong + " of them wrong; met: " + happened);
        if (wrong != 0 || !happened.keySet().containsAll(TO_BE_MET)) {
            System.exit(1);
        }
    }
}
