import java.util.ArrayList;
import java.util.Collections;
import java.util.HashMap;
import java.util.HashSet;
import java.util.IdentityHashMap;
import java.util.List;
import java.util.Map;
import java.util.Set;
import java.util.TreeMap;

/**
 * The document once more, as plainly as it can be said and without a thought for room: cells are objects, every choice
 * keeps whole lists, and what is live is found by sets. Random runs compare it with GoalEngine.
 */
final class ModelEngine {
    /** What takes cells: a variable (one) or a name with its arguments. */
    private static final class Block {
        final long taken;
        final int word;
        final Object[] arguments;
        Object bound;

        Block(long taken, int word, int arguments) {
            this.taken = taken;
            this.word = word;
            this.arguments = new Object[arguments];
        }

        boolean isVariable() {
            return arguments.length == 0;
        }

        int size() {
            return 1 + arguments.length;
        }
    }

    private record Goal(Object term, int height) {
    }

    private record Choice(List<Goal> goals, int rule, Set<Block> inUse, Set<Block> bound) {
    }

    private static final class Failure extends RuntimeException {
        private static final long serialVersionUID = 1L;
    }

    private final List<int[]> rules = new ArrayList<>();
    private final List<Integer> typed = new ArrayList<>();
    private List<Block> inUse = new ArrayList<>();
    private List<Goal> goals = new ArrayList<>();
    private final List<Choice> choices = new ArrayList<>();
    private List<Block> questionVariables = new ArrayList<>();
    private int saidRule = -1;
    private boolean open;
    private int tank = 300;
    private int collections;
    private long clock;
    private int pairs;
    private int operations;
    private int copyAt;
    /** How often something worth a test happened, for the test that makes the random runs. */
    final Map<String, Integer> happened = new TreeMap<>();

    private void note(String what) {
        happened.merge(what, 1, Integer::sum);
    }

    private static int kind(int word) {
        return Math.floorMod(word, 8);
    }

    private static int value(int word) {
        return Math.floorDiv(word, 8);
    }

    private static int arity(int word) {
        return kind(word) >= 2 && kind(word) <= 5 ? kind(word) - 2 : 0;
    }

    int put(int word) {
        int k = kind(word);
        int v = value(word);
        boolean good = k == 1 || k == 0 && v >= 0 && v <= 7 || k >= 2 && k <= 5 && v >= 0 && v <= 31 || word == 6;
        if (!good) {
            throw new IllegalArgumentException();
        }
        if (typed.size() == 30) {
            throw new IllegalStateException();
        }
        typed.add(word);
        return typed.size();
    }

    private int afterTerm(int[] row, int at) {
        if (at >= row.length || kind(row[at]) == 6) {
            return -1;
        }
        int next = at + 1;
        for (int i = 0; i < arity(row[at]) && next >= 0; i++) {
            next = afterTerm(row, next);
        }
        return next;
    }

    private boolean areGoals(int[] row) {
        int at = 0;
        while (at >= 0 && at < row.length) {
            if (kind(row[at]) == 6) {
                at++;
            } else {
                at = kind(row[at]) < 2 ? -1 : afterTerm(row, at);
            }
        }
        return at == row.length && row.length > 0;
    }

    private int[] takeTyped() {
        int[] row = typed.stream().mapToInt(i -> i).toArray();
        typed.clear();
        return row;
    }

    int rule() {
        if (rules.size() == 16 || open) {
            throw new IllegalStateException();
        }
        int[] row = takeTyped();
        if (!areGoals(row) || kind(row[0]) == 6 || value(row[0]) >= 24) {
            throw new IllegalArgumentException();
        }
        rules.add(row);
        return rules.size();
    }

    int ask() {
        int[] row = takeTyped();
        if (!areGoals(row)) {
            throw new IllegalArgumentException();
        }
        inUse = new ArrayList<>();
        choices.clear();
        goals = new ArrayList<>();
        for (Object term : copy(row)) {
            goals.add(new Goal(term, 0));
        }
        questionVariables = inUse.stream().filter(Block::isVariable).toList();
        saidRule = -1;
        open = true;
        return cells();
    }

    private Block take(int word, int arguments) {
        Block block = new Block(clock++, word, arguments);
        inUse.add(block);
        return block;
    }

    private int cells() {
        return inUse.stream().mapToInt(Block::size).sum();
    }

    private static int cellsOf(int[] row) {
        int sum = 0;
        Set<Integer> variables = new HashSet<>();
        for (int word : row) {
            if (kind(word) == 0) {
                variables.add(word);
            }
            sum += arity(word) > 0 ? 1 + arity(word) : 0;
        }
        return sum + variables.size();
    }

    private List<Object> copy(int[] row) {
        Map<Integer, Block> variables = new TreeMap<>();
        for (int word : row) {
            if (kind(word) == 0) {
                variables.put(word, null);
            }
        }
        variables.replaceAll((word, none) -> take(word, 0));
        List<Object> terms = new ArrayList<>();
        copyAt = 0;
        while (copyAt < row.length) {
            terms.add(copyTerm(row, variables));
        }
        return terms;
    }

    private Object copyTerm(int[] row, Map<Integer, Block> variables) {
        int word = row[copyAt++];
        if (kind(word) == 0) {
            return variables.get(word);
        }
        if (arity(word) == 0) {
            return word;
        }
        Block block = take(word, arity(word));
        for (int i = 0; i < arity(word); i++) {
            block.arguments[i] = copyTerm(row, variables);
        }
        return block;
    }

    private static Object meant(Object term) {
        while (term instanceof Block b && b.isVariable() && b.bound != null) {
            term = b.bound;
        }
        return term;
    }

    private static boolean isFree(Object term) {
        return term instanceof Block b && b.isVariable();
    }

    private void unify(Object a, Object b) {
        pairs++;
        if (pairs > 300) {
            note("too much");
            throw new UnsupportedOperationException();
        }
        Object x = meant(a);
        Object y = meant(b);
        if (x == y && isFree(x)) {
            return;
        }
        if (isFree(x) && isFree(y)) {
            Block bx = (Block) x;
            Block by = (Block) y;
            if (bx.taken > by.taken) {
                bx.bound = by;
            } else {
                by.bound = bx;
            }
        } else if (isFree(x)) {
            bindChecked((Block) x, y);
        } else if (isFree(y)) {
            bindChecked((Block) y, x);
        } else if (x instanceof Block bx && y instanceof Block by) {
            if (bx.word != by.word) {
                throw new Failure();
            }
            for (int i = 0; i < bx.arguments.length; i++) {
                unify(bx.arguments[i], by.arguments[i]);
            }
        } else if (!x.equals(y)) {
            throw new Failure();
        }
    }

    private void bindChecked(Block variable, Object term) {
        Set<Block> inside = identitySet();
        hang(term, inside);
        if (inside.contains(variable)) {
            note("occurs");
            throw new Failure();
        }
        variable.bound = term;
    }

    private static Set<Block> identitySet() {
        return Collections.newSetFromMap(new IdentityHashMap<>());
    }

    /** All blocks that hang on a term, itself among them. */
    private static void hang(Object term, Set<Block> found) {
        if (!(term instanceof Block b) || !found.add(b)) {
            return;
        }
        if (b.isVariable()) {
            hang(b.bound, found);
        }
        for (Object argument : b.arguments) {
            hang(argument, found);
        }
    }

    private int calculate(Object term) {
        operations = 0;
        return result(term);
    }

    private int result(Object term) {
        Object x = meant(term);
        if (x instanceof Integer word && kind(word) == 1) {
            return value(word);
        }
        if (!(x instanceof Block b) || kind(b.word) != 4 || value(b.word) < 28 || ++operations > 30) {
            throw new ArithmeticException();
        }
        long first = result(b.arguments[0]);
        long second = result(b.arguments[1]);
        long out = switch (value(b.word)) {
            case 28 -> first + second;
            case 29 -> first - second;
            case 30 -> first * second;
            default -> first / second;
        };
        return (int) (Math.floorMod(out + (1L << 28), 1L << 29) - (1L << 28));
    }

    int solve(int steps) {
        if (steps < 1 || steps > 20) {
            throw new IllegalArgumentException();
        }
        if (!open || goals.isEmpty()) {
            throw new IllegalStateException();
        }
        for (int i = 0; i < steps && tank > 0 && open && !goals.isEmpty(); i++) {
            tank--;
            try {
                step();
            } catch (Failure f) {
                fail();
            } catch (RuntimeException e) {
                note(e.getClass().getSimpleName());
                open = false;
                throw e;
            }
        }
        if (!open) {
            return 0;
        }
        return goals.isEmpty() ? 1 : 2;
    }

    private void fail() {
        if (choices.isEmpty()) {
            open = false;
            return;
        }
        Choice choice = choices.remove(choices.size() - 1);
        inUse.removeIf(block -> !choice.inUse.contains(block));
        for (Block block : inUse) {
            if (!choice.bound.contains(block)) {
                block.bound = null;
            }
        }
        goals = new ArrayList<>(choice.goals);
        saidRule = choice.rule;
    }

    private void step() {
        Goal goal = goals.remove(0);
        if (saidRule >= 0) {
            int rule = saidRule;
            saidRule = -1;
            tryRule(goal, rule);
            return;
        }
        if (goal.term.equals(6)) {
            if (choices.size() > goal.height) {
                note("cut gives up choices");
            }
            while (choices.size() > goal.height) {
                choices.remove(choices.size() - 1);
            }
            return;
        }
        int word = goal.term instanceof Block b ? b.word : (Integer) goal.term;
        if (kind(word) == 4 && value(word) >= 24) {
            Object[] arguments = ((Block) goal.term).arguments;
            builtIn(value(word), arguments[0], arguments[1]);
            return;
        }
        int rule = ruleFor(word, 0);
        if (rule < 0) {
            throw new Failure();
        }
        tryRule(goal, rule);
    }

    private void builtIn(int name, Object first, Object second) {
        pairs = 0;
        if (name == 24) {
            unify(first, second);
        } else if (name == 25) {
            unify(first, calculate(second) * 8 + 1);
        } else if (name == 26 || name == 27) {
            int x = calculate(first);
            int y = calculate(second);
            if (!(name == 26 ? x < y : x == y)) {
                throw new Failure();
            }
        } else {
            throw new Failure();
        }
    }

    private int ruleFor(int word, int from) {
        for (int i = from; i < rules.size(); i++) {
            if (rules.get(i)[0] == word) {
                return i;
            }
        }
        return -1;
    }

    private void tryRule(Goal goal, int rule) {
        int height = choices.size();
        int later = ruleFor(rules.get(rule)[0], rule + 1);
        List<Goal> withThis = new ArrayList<>(goals);
        withThis.add(0, goal);
        if (later >= 0) {
            Set<Block> now = identitySet();
            now.addAll(inUse);
            Set<Block> bound = identitySet();
            inUse.stream().filter(b -> b.bound != null).forEach(bound::add);
            choices.add(new Choice(withThis, later, now, bound));
        }
        if (cells() + cellsOf(rules.get(rule)) > 240) {
            note(freed(withThis) > 0 ? "collection in a step frees" : "collection in a step frees none");
            if (cells() + cellsOf(rules.get(rule)) > 240) {
                note("no room");
                throw new UnsupportedOperationException();
            }
        }
        List<Object> terms = copy(rules.get(rule));
        pairs = 0;
        unify(terms.get(0), goal.term);
        for (int i = terms.size() - 1; i > 0; i--) {
            goals.add(0, new Goal(terms.get(i), height));
        }
    }

    private int freed(List<Goal> atHand) {
        collections++;
        Set<Block> live = identitySet();
        atHand.forEach(goal -> hang(goal.term, live));
        questionVariables.forEach(variable -> hang(variable, live));
        for (Choice choice : choices) {
            choice.goals.forEach(goal -> hang(goal.term, live));
        }
        for (Choice choice : choices) {
            for (Block block : inUse) {
                if (block.bound != null && !choice.bound.contains(block) && choice.inUse.contains(block)) {
                    hang(block, live);
                }
            }
        }
        int before = cells();
        inUse.removeIf(block -> !live.contains(block));
        if (!choices.isEmpty() && cells() < before) {
            note("collection with choices frees");
        }
        return before - cells();
    }

    boolean next() {
        if (words() == 0 && !(open && goals.isEmpty())) {
            throw new IllegalStateException();
        }
        fail();
        return open;
    }

    void stop() {
        open = false;
    }

    int collect() {
        return open ? freed(goals) : 0;
    }

    int count(int which) {
        return switch (which) {
            case 0 -> open ? cells() : 0;
            case 1 -> open ? choices.size() : 0;
            case 2 -> open ? goals.size() : 0;
            case 3 -> tank;
            case 4 -> rules.size();
            case 5 -> typed.size();
            case 6 -> collections;
            default -> throw new IllegalArgumentException();
        };
    }

    private List<Integer> answer() {
        List<Integer> out = new ArrayList<>();
        if (open && goals.isEmpty()) {
            Map<Block, Integer> free = new HashMap<>();
            for (Block variable : questionVariables) {
                write(variable, free, out);
            }
        }
        return out;
    }

    private void write(Object term, Map<Block, Integer> free, List<Integer> out) {
        if (out.size() == 90) {
            return;
        }
        Object x = meant(term);
        if (!(x instanceof Block b)) {
            out.add((Integer) x);
        } else if (b.isVariable()) {
            free.putIfAbsent(b, free.size());
            out.add(8 * free.get(b));
        } else {
            out.add(b.word);
            for (Object argument : b.arguments) {
                write(argument, free, out);
            }
        }
    }

    int words() {
        return answer().size();
    }

    int word(int i) {
        List<Integer> out = answer();
        if (i < 0 || i >= out.size()) {
            throw new IndexOutOfBoundsException();
        }
        return out.get(i);
    }
}
