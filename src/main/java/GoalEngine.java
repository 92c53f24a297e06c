import java.util.Arrays;

/**
 * Answers questions by rules: goals are taken one after the other, terms are unified, other ways are tried when one
 * fails, a cut gives them up, numbers are calculated; the cells that terms take are counted, and those that nothing
 * needs any more are given back.
 *
 * <p>Inside, a term is an int in the form of a word, so that numbers and names without arguments are their own words;
 * but a variable's value is its cell, and a name with arguments is of the kind STRUCTURE, which no word has, with the
 * cell of the name as its value. A variable that is not bound has itself in its cell.
 */
public final class GoalEngine {
    private static final int KIND = 7;
    private static final int VALUE_SHIFT = 3;

    private static final int VARIABLE = 0;
    private static final int NUMBER = 1;
    private static final int NAME = 2;
    private static final int NAME_WITH_TWO = 4;
    private static final int CUT = 6;
    private static final int STRUCTURE = 7;

    private static final int SAME = 24;
    private static final int IS = 25;
    private static final int LESS = 26;
    private static final int EQUAL = 27;
    private static final int SUM = 28;
    private static final int DIFFERENCE = 29;
    private static final int PRODUCT = 30;
    private static final int QUOTIENT = 31;

    private static final int VARIABLE_VALUES = 8;
    private static final int NAME_VALUES = 32;
    private static final int HEAD_VALUES = 24;
    private static final int MOST_ARGUMENTS = 3;
    private static final int MOST_TYPED = 30;
    private static final int MOST_RULES = 16;
    private static final int MOST_CELLS = 240;
    private static final int MOST_PAIRS = 300;
    private static final int MOST_OPERATIONS = 30;
    private static final int MOST_STEPS = 20;
    private static final int MOST_ANSWER_WORDS = 90;
    private static final int FULL_TANK = 300;
    /** More than the question and a full tank of the longest bodies come to. */
    private static final int MOST_GOALS = MOST_TYPED * (FULL_TANK + 1);

    private static final int NONE = -1;
    /** Beyond the range of an int, so that no number is mistaken for it. */
    private static final long NO_NUMBER = 1L << 32;

    private static final int WELL = 0;
    private static final int FAILED = 1;
    private static final int ERROR = 2;
    private static final int BEYOND_LIMIT = 3;

    private static final int OVER = 0;
    private static final int RUNNING = 1;
    private static final int ANSWERED = 2;

    private final int[] typed;
    private int typedCount;
    private final RuleBook rules;
    private final Search search;

    public GoalEngine() {
        typed = new int[MOST_TYPED];
        typedCount = 0;
        rules = new RuleBook();
        search = new Search(rules);
    }

    public int put(int word) throws IllegalArgumentException, IllegalStateException {
        if (!isWord(word)) {
            throw new IllegalArgumentException();
        }
        if (typedCount >= MOST_TYPED) {
            throw new IllegalStateException();
        }
        typed[typedCount] = word;
        typedCount++;
        return typedCount;
    }

    public int rule() throws IllegalStateException, IllegalArgumentException {
        if (rules.size >= MOST_RULES || search.state != OVER) {
            throw new IllegalStateException();
        }
        int length = takeTyped();
        if (!isRule(typed, length)) {
            throw new IllegalArgumentException();
        }
        rules.add(typed, length);
        return rules.size;
    }

    public int ask() throws IllegalArgumentException {
        int length = takeTyped();
        if (!isQuestion(typed, length)) {
            throw new IllegalArgumentException();
        }
        search.begin(typed, length);
        return search.cellsInUse();
    }

    public int solve(int steps)
            throws IllegalArgumentException, IllegalStateException, ArithmeticException, UnsupportedOperationException {
        if (steps < 1 || steps > MOST_STEPS) {
            throw new IllegalArgumentException();
        }
        if (search.state != RUNNING) {
            throw new IllegalStateException();
        }
        int outcome = WELL;
        for (int i = 0; i < steps && search.canStep(); i++) {
            outcome = search.step();
            search.settle(outcome);
        }
        if (outcome == ERROR) {
            throw new ArithmeticException();
        }
        if (outcome == BEYOND_LIMIT) {
            throw new UnsupportedOperationException();
        }
        if (search.state == ANSWERED) {
            return 1;
        }
        return search.state == OVER ? 0 : 2;
    }

    public boolean next() throws IllegalStateException {
        if (search.state != ANSWERED) {
            throw new IllegalStateException();
        }
        search.tryOtherWay();
        return search.state != OVER;
    }

    public void stop() {
        search.state = OVER;
    }

    public int collect() {
        return search.state == OVER ? 0 : search.freeCells();
    }

    public int count(int which) throws IllegalArgumentException {
        switch (which) {
            case 0:
                return search.cellsInUse();
            case 1:
                return search.choicesLeft();
            case 2:
                return search.goalsAtHand();
            case 3:
                return search.tank;
            case 4:
                return rules.size;
            case 5:
                return typedCount;
            case 6:
                return search.collections();
            default:
                throw new IllegalArgumentException();
        }
    }

    public int words() {
        return search.answerLength();
    }

    public int word(int i) throws IndexOutOfBoundsException {
        if (i < 0 || i >= search.answerLength()) {
            throw new IndexOutOfBoundsException();
        }
        return search.answerWord(i);
    }

    /** The words themselves stay in their row until others are typed. */
    private int takeTyped() {
        int length = typedCount;
        typedCount = 0;
        return length;
    }

    private static boolean isWord(int word) {
        int value = word >> VALUE_SHIFT;
        switch (word & KIND) {
            case VARIABLE:
                return value >= 0 && value < VARIABLE_VALUES;
            case NUMBER:
                return true;
            case CUT:
                return value == 0;
            case STRUCTURE:
                return false;
            default:
                return value >= 0 && value < NAME_VALUES;
        }
    }

    private static boolean isRule(int[] row, int length) {
        return isQuestion(row, length) && (row[0] & KIND) != CUT && row[0] >> VALUE_SHIFT < HEAD_VALUES;
    }

    private static boolean isQuestion(int[] row, int length) {
        int missing = 0;
        for (int i = 0; i < length; i++) {
            int kind = row[i] & KIND;
            boolean fits = missing == 0 ? kind >= NAME : kind != CUT;
            if (!fits) {
                return false;
            }
            missing = Math.max(0, missing - 1) + argumentsOf(row[i]);
        }
        return length > 0 && missing == 0;
    }

    private static int argumentsOf(int word) {
        int arguments = (word & KIND) - NAME;
        return arguments >= 0 && arguments <= MOST_ARGUMENTS ? arguments : 0;
    }

    /** The words of a rule or a question, with what a copy of it takes. */
    private static final class Clause {
        final int[] row = new int[MOST_TYPED];
        int length;
        /** Bit v stands for the variable with the value v. */
        int variables;
        int cellsOfCopy;

        void read(int[] from, int size) {
            length = size;
            variables = 0;
            cellsOfCopy = 0;
            for (int i = 0; i < size; i++) {
                row[i] = from[i];
                int arguments = argumentsOf(from[i]);
                if (arguments > 0) {
                    cellsOfCopy += 1 + arguments;
                }
                if ((from[i] & KIND) == VARIABLE) {
                    variables |= 1 << (from[i] >> VALUE_SHIFT);
                }
            }
            cellsOfCopy += Integer.bitCount(variables);
        }
    }

    private static final class RuleBook {
        final Clause[] clauses;
        int size;

        RuleBook() {
            clauses = new Clause[MOST_RULES];
            for (int i = 0; i < MOST_RULES; i++) {
                clauses[i] = new Clause();
            }
        }

        void add(int[] from, int length) {
            clauses[size].read(from, length);
            size++;
        }

        /** A name's word tells its number of arguments too, so that equal words are enough. */
        int firstFor(int name, int from) {
            for (int i = from; i < size; i++) {
                if (clauses[i].row[0] == name) {
                    return i;
                }
            }
            return NONE;
        }
    }

    /** The cells in use lie in the order in which they were taken, with no gap. */
    private static final class Cells {
        final int[] cell = new int[MOST_CELLS];
        int used;
        /** The variables that were bound, in that order; each cell is in it once at the most. */
        final int[] trail = new int[MOST_CELLS];
        int trailed;
        private final int[] variableAt = new int[VARIABLE_VALUES];
        /** Cells of arguments that a copy has still to fill, the next one at the end; each one is a word to come. */
        private final int[] open = new int[MOST_TYPED];
        private int openCount;
        /** The goals of the last copy, a rule's head first. */
        final int[] copied = new int[MOST_TYPED];
        int copiedCount;

        int follow(int term) {
            int now = term;
            for (int i = 0; i < MOST_CELLS && (now & KIND) == VARIABLE; i++) {
                int to = cell[now >> VALUE_SHIFT];
                if (to == now) {
                    return now;
                }
                now = to;
            }
            return now;
        }

        int nameOf(int goal) {
            return (goal & KIND) == STRUCTURE ? cell[goal >> VALUE_SHIFT] : goal;
        }

        int argument(int structure, int which) {
            return cell[(structure >> VALUE_SHIFT) + which];
        }

        void bind(int variable, int term) {
            cell[variable >> VALUE_SHIFT] = term;
            trail[trailed] = variable;
            trailed++;
        }

        void goBack(int cellMark, int trailMark) {
            for (int i = trailed - 1; i >= trailMark; i--) {
                cell[trail[i] >> VALUE_SHIFT] = trail[i];
            }
            trailed = trailMark;
            used = cellMark;
        }

        void clear() {
            used = 0;
            trailed = 0;
        }

        void copy(Clause clause) {
            openCount = 0;
            copiedCount = 0;
            takeVariables(clause.variables);
            for (int i = 0; i < clause.length; i++) {
                place(termOf(clause.row[i]));
                takeName(clause.row[i]);
            }
        }

        private void takeVariables(int variables) {
            for (int value = 0; value < VARIABLE_VALUES; value++) {
                if ((variables >> value & 1) == 1) {
                    variableAt[value] = used;
                    cell[used] = used << VALUE_SHIFT;
                    used++;
                }
            }
        }

        private int termOf(int word) {
            if ((word & KIND) == VARIABLE) {
                return variableAt[word >> VALUE_SHIFT] << VALUE_SHIFT;
            }
            return argumentsOf(word) > 0 ? used << VALUE_SHIFT | STRUCTURE : word;
        }

        private void place(int term) {
            if (openCount > 0) {
                openCount--;
                cell[open[openCount]] = term;
            } else {
                copied[copiedCount] = term;
                copiedCount++;
            }
        }

        private void takeName(int word) {
            int arguments = argumentsOf(word);
            if (arguments == 0) {
                return;
            }
            cell[used] = word;
            for (int i = arguments; i >= 1; i--) {
                open[openCount] = used + i;
                openCount++;
            }
            used += 1 + arguments;
        }
    }

    /** Finds the cells that hang on terms; a name's cell stands for those of its arguments. */
    private static final class Tracer {
        private final Cells cells;
        private final boolean[] reached = new boolean[MOST_CELLS];
        private final int[] waiting = new int[MOST_CELLS];
        private int waitingCount;

        Tracer(Cells cells) {
            this.cells = cells;
        }

        void forget() {
            for (int i = 0; i < cells.used; i++) {
                reached[i] = false;
            }
            waitingCount = 0;
        }

        boolean hasReached(int at) {
            return reached[at];
        }

        /** A cell waits only once, so there are never more rounds than cells. */
        void trace(int term) {
            reach(term);
            for (int round = 0; round < MOST_CELLS && waitingCount > 0; round++) {
                waitingCount--;
                int at = waiting[waitingCount];
                int arguments = argumentsOf(cells.cell[at]);
                if (arguments == 0) {
                    reach(cells.cell[at]);
                }
                for (int i = 1; i <= arguments; i++) {
                    reach(cells.cell[at + i]);
                }
            }
        }

        private void reach(int term) {
            int kind = term & KIND;
            if (kind != VARIABLE && kind != STRUCTURE) {
                return;
            }
            int at = term >> VALUE_SHIFT;
            if (!reached[at]) {
                reached[at] = true;
                waiting[waitingCount] = at;
                waitingCount++;
            }
        }
    }

    private static final class Unifier {
        private final Cells cells;
        private final Tracer tracer;
        /** The pairs that are still to be looked at, the next one at the end; one that goes leaves three. */
        private final int[] left = new int[MOST_PAIRS * (MOST_ARGUMENTS - 1) + 1];
        private final int[] right = new int[MOST_PAIRS * (MOST_ARGUMENTS - 1) + 1];
        private int pairs;

        Unifier(Cells cells, Tracer tracer) {
            this.cells = cells;
            this.tracer = tracer;
        }

        int unify(int one, int other) {
            left[0] = one;
            right[0] = other;
            pairs = 1;
            for (int looked = 0; looked < MOST_PAIRS && pairs > 0; looked++) {
                pairs--;
                if (!lookAt(cells.follow(left[pairs]), cells.follow(right[pairs]))) {
                    return FAILED;
                }
            }
            return pairs == 0 ? WELL : BEYOND_LIMIT;
        }

        private boolean lookAt(int one, int other) {
            boolean oneIsFree = (one & KIND) == VARIABLE;
            boolean otherIsFree = (other & KIND) == VARIABLE;
            if (oneIsFree && otherIsFree) {
                bindLater(one, other);
                return true;
            }
            if (oneIsFree) {
                return bindUnlessInside(one, other);
            }
            if (otherIsFree) {
                return bindUnlessInside(other, one);
            }
            if ((one & KIND) == STRUCTURE && (other & KIND) == STRUCTURE) {
                return openArguments(one, other);
            }
            return one == other;
        }

        private void bindLater(int one, int other) {
            if (one != other) {
                cells.bind(Math.max(one, other), Math.min(one, other));
            }
        }

        private boolean bindUnlessInside(int variable, int term) {
            if ((term & KIND) == STRUCTURE) {
                tracer.forget();
                tracer.trace(term);
                if (tracer.hasReached(variable >> VALUE_SHIFT)) {
                    return false;
                }
            }
            cells.bind(variable, term);
            return true;
        }

        private boolean openArguments(int one, int other) {
            int name = cells.nameOf(one);
            if (name != cells.nameOf(other)) {
                return false;
            }
            for (int i = argumentsOf(name); i >= 1; i--) {
                left[pairs] = cells.argument(one, i);
                right[pairs] = cells.argument(other, i);
                pairs++;
            }
            return true;
        }
    }

    private static final class Calculator {
        private final Cells cells;
        private int operations;

        Calculator(Cells cells) {
            this.cells = cells;
        }

        /** NO_NUMBER is the document's error. */
        long calculate(int term) {
            operations = 0;
            return resultOf(term);
        }

        /** Never more than one level deeper than there may be operations. */
        private long resultOf(int term) {
            int meant = cells.follow(term);
            if ((meant & KIND) == NUMBER) {
                return meant >> VALUE_SHIFT;
            }
            if (!isOperation(meant) || operations >= MOST_OPERATIONS) {
                return NO_NUMBER;
            }
            operations++;
            long first = resultOf(cells.argument(meant, 1));
            if (first == NO_NUMBER) {
                return NO_NUMBER;
            }
            long second = resultOf(cells.argument(meant, 2));
            if (second == NO_NUMBER) {
                return NO_NUMBER;
            }
            return join(cells.nameOf(meant) >> VALUE_SHIFT, (int) first, (int) second);
        }

        private boolean isOperation(int term) {
            int name = cells.nameOf(term);
            return (name & KIND) == NAME_WITH_TWO && name >> VALUE_SHIFT >= SUM;
        }

        private static long join(int operation, int first, int second) {
            switch (operation) {
                case SUM:
                    return roundIntoRange(first + second);
                case DIFFERENCE:
                    return roundIntoRange(first - second);
                case PRODUCT:
                    return roundIntoRange(first * second);
                case QUOTIENT:
                    return second == 0 ? NO_NUMBER : roundIntoRange(first / second);
                default:
                    return NO_NUMBER;
            }
        }

        /** A number's range is what a word has left beside its kind. */
        private static int roundIntoRange(int result) {
            return result << VALUE_SHIFT >> VALUE_SHIFT;
        }
    }

    /**
     * Goals in chains, so that choices and the search can keep the same ones. A goal's place is always above those of
     * the goals behind it.
     */
    private static final class Goals {
        int[] term = new int[2 * MOST_TYPED];
        int[] height = new int[2 * MOST_TYPED];
        int[] behind = new int[2 * MOST_TYPED];
        boolean[] seen = new boolean[2 * MOST_TYPED];

        void set(int at, int goal, int itsHeight, int next) {
            if (at >= term.length) {
                grow();
            }
            term[at] = goal;
            height[at] = itsHeight;
            behind[at] = next;
        }

        private void grow() {
            int size = 2 * term.length;
            term = Arrays.copyOf(term, size);
            height = Arrays.copyOf(height, size);
            behind = Arrays.copyOf(behind, size);
            // Between collections none is seen.
            seen = new boolean[size];
        }

        int lengthFrom(int first) {
            int length = 0;
            for (int at = first; at >= 0 && length < MOST_GOALS; at = behind[at]) {
                length++;
            }
            return length;
        }
    }

    private static final class Choices {
        final int[] firstGoal = new int[FULL_TANK];
        final int[] nextRule = new int[FULL_TANK];
        final int[] cellMark = new int[FULL_TANK];
        final int[] trailMark = new int[FULL_TANK];
        /** The places of goals below it are kept by this choice or an older one. */
        final int[] goalMark = new int[FULL_TANK];
        int size;

        void make(int goal, int rule, Cells cells) {
            int mark = Math.max(goalsKept(), goal + 1);
            firstGoal[size] = goal;
            nextRule[size] = rule;
            cellMark[size] = cells.used;
            trailMark[size] = cells.trailed;
            goalMark[size] = mark;
            size++;
        }

        int goalsKept() {
            return size == 0 ? 0 : goalMark[size - 1];
        }

        void cutTo(int height) {
            size = Math.min(size, height);
        }
    }

    private static final class Collector {
        private final Cells cells;
        private final Goals goals;
        private final Choices choices;
        private final Tracer tracer;
        /** Where the cell at a place goes; one place more, for marks behind the last cell. */
        private final int[] newPlace = new int[MOST_CELLS + 1];
        int collections;

        Collector(Cells cells, Goals goals, Choices choices, Tracer tracer) {
            this.cells = cells;
            this.goals = goals;
            this.choices = choices;
            this.tracer = tracer;
        }

        int run(int firstGoal, int questionVariables) {
            int before = cells.used;
            collections++;
            dropNeedlessTrail();
            traceLive(firstGoal, questionVariables);
            findNewPlaces();
            moveCells();
            moveGoals(Math.max(firstGoal + 1, choices.goalsKept()));
            moveMarks();
            return before - cells.used;
        }

        /** After a cut, or for a variable that its choice gives back anyway, no choice undoes a binding any more. */
        private void dropNeedlessTrail() {
            int kept = 0;
            int passed = 0;
            for (int i = 0; i <= cells.trailed; i++) {
                while (passed < choices.size && choices.trailMark[passed] <= i) {
                    choices.trailMark[passed] = kept;
                    passed++;
                }
                if (i < cells.trailed && passed > 0
                        && cells.trail[i] >> VALUE_SHIFT < choices.cellMark[passed - 1]) {
                    cells.trail[kept] = cells.trail[i];
                    kept++;
                }
            }
            cells.trailed = kept;
        }

        private void traceLive(int firstGoal, int questionVariables) {
            tracer.forget();
            for (int i = 0; i < questionVariables; i++) {
                tracer.trace(i << VALUE_SHIFT);
            }
            for (int i = 0; i < cells.trailed; i++) {
                tracer.trace(cells.trail[i]);
            }
            for (int i = 0; i < choices.size; i++) {
                traceGoals(choices.firstGoal[i]);
            }
            traceGoals(firstGoal);
        }

        /** Behind a goal that was seen all were seen. */
        private void traceGoals(int first) {
            int at = first;
            for (int i = 0; i < MOST_GOALS && at >= 0 && !goals.seen[at]; i++) {
                goals.seen[at] = true;
                int goal = goals.term[at];
                if ((goal & KIND) == STRUCTURE) {
                    tracer.trace(goal);
                }
                at = goals.behind[at];
            }
        }

        private void findNewPlaces() {
            int live = 0;
            int size;
            for (int at = 0; at < cells.used; at += size) {
                size = 1 + argumentsOf(cells.cell[at]);
                newPlace[at] = live;
                if (tracer.hasReached(at)) {
                    live += size;
                }
            }
            newPlace[cells.used] = live;
        }

        private void moveCells() {
            int live = newPlace[cells.used];
            int size;
            for (int at = 0; at < cells.used; at += size) {
                size = 1 + argumentsOf(cells.cell[at]);
                for (int i = 0; i < size && tracer.hasReached(at); i++) {
                    cells.cell[newPlace[at] + i] = moved(cells.cell[at + i]);
                }
            }
            cells.used = live;
        }

        private void moveGoals(int end) {
            for (int at = 0; at < end; at++) {
                if (goals.seen[at]) {
                    goals.term[at] = moved(goals.term[at]);
                    goals.seen[at] = false;
                }
            }
        }

        private void moveMarks() {
            for (int i = 0; i < choices.size; i++) {
                choices.cellMark[i] = newPlace[choices.cellMark[i]];
            }
            for (int i = 0; i < cells.trailed; i++) {
                cells.trail[i] = moved(cells.trail[i]);
            }
        }

        private int moved(int term) {
            int kind = term & KIND;
            if (kind != VARIABLE && kind != STRUCTURE) {
                return term;
            }
            return newPlace[term >> VALUE_SHIFT] << VALUE_SHIFT | kind;
        }
    }

    private static final class Answer {
        private final Cells cells;
        private final int[] row = new int[MOST_ANSWER_WORDS];
        private int length;
        private final int[] freeVariables = new int[MOST_ANSWER_WORDS];
        private int freeCount;
        /** Terms that are still to be written, the next one at the end; one that goes leaves three. */
        private final int[] waiting = new int[MOST_ANSWER_WORDS * (MOST_ARGUMENTS - 1) + 1];
        private int waitingCount;

        Answer(Cells cells) {
            this.cells = cells;
        }

        /** The question's variables have the first cells: they were taken first, and always live. */
        int write(int questionVariables) {
            length = 0;
            freeCount = 0;
            for (int i = 0; i < questionVariables; i++) {
                writeTerm(i << VALUE_SHIFT);
            }
            return length;
        }

        int at(int i) {
            return row[i];
        }

        private void writeTerm(int term) {
            waiting[0] = term;
            waitingCount = 1;
            while (waitingCount > 0 && length < MOST_ANSWER_WORDS) {
                waitingCount--;
                int meant = cells.follow(waiting[waitingCount]);
                row[length] = wordOf(meant);
                length++;
                openArguments(meant);
            }
        }

        private int wordOf(int term) {
            if ((term & KIND) != VARIABLE) {
                return cells.nameOf(term);
            }
            for (int i = 0; i < freeCount; i++) {
                if (freeVariables[i] == term) {
                    return i << VALUE_SHIFT;
                }
            }
            freeVariables[freeCount] = term;
            freeCount++;
            return freeCount - 1 << VALUE_SHIFT;
        }

        private void openArguments(int term) {
            if ((term & KIND) != STRUCTURE) {
                return;
            }
            for (int i = argumentsOf(cells.nameOf(term)); i >= 1; i--) {
                waiting[waitingCount] = cells.argument(term, i);
                waitingCount++;
            }
        }
    }

    private static final class Search {
        private final RuleBook rules;
        private final Clause question = new Clause();
        private final Cells cells;
        private final Unifier unifier;
        private final Calculator calculator;
        private final Goals goals;
        private final Choices choices;
        private final Collector collector;
        private final Answer answer;
        private int firstGoal;
        private int saidRule;
        int state;
        int tank;

        Search(RuleBook rules) {
            this.rules = rules;
            cells = new Cells();
            Tracer tracer = new Tracer(cells);
            unifier = new Unifier(cells, tracer);
            calculator = new Calculator(cells);
            goals = new Goals();
            choices = new Choices();
            collector = new Collector(cells, goals, choices, tracer);
            answer = new Answer(cells);
            firstGoal = NONE;
            saidRule = NONE;
            state = OVER;
            tank = FULL_TANK;
        }

        void begin(int[] from, int length) {
            question.read(from, length);
            cells.clear();
            choices.cutTo(0);
            cells.copy(question);
            firstGoal = NONE;
            saidRule = NONE;
            bringGoals(0, 0);
            state = RUNNING;
        }

        boolean canStep() {
            return state == RUNNING && tank > 0;
        }

        void settle(int outcome) {
            if (outcome == FAILED) {
                tryOtherWay();
            } else if (outcome != WELL) {
                state = OVER;
            } else if (firstGoal == NONE) {
                state = ANSWERED;
            }
        }

        int step() {
            tank--;
            int at = firstGoal;
            int rule = saidRule;
            firstGoal = goals.behind[at];
            saidRule = NONE;
            int goal = goals.term[at];
            if ((goal & KIND) == CUT) {
                choices.cutTo(goals.height[at]);
                return WELL;
            }
            int name = cells.nameOf(goal);
            if ((name & KIND) == NAME_WITH_TWO && name >> VALUE_SHIFT >= HEAD_VALUES) {
                return meet(name >> VALUE_SHIFT, cells.argument(goal, 1), cells.argument(goal, 2));
            }
            if (rule == NONE) {
                rule = rules.firstFor(name, 0);
            }
            return rule == NONE ? FAILED : tryRule(at, rule, name);
        }

        private int meet(int name, int first, int second) {
            switch (name) {
                case SAME:
                    return unifier.unify(first, second);
                case IS:
                    long number = calculator.calculate(second);
                    return number == NO_NUMBER ? ERROR : unifier.unify(first, (int) number << VALUE_SHIFT | NUMBER);
                case LESS:
                case EQUAL:
                    return compare(name, calculator.calculate(first), calculator.calculate(second));
                default:
                    return FAILED;
            }
        }

        private static int compare(int name, long first, long second) {
            if (first == NO_NUMBER || second == NO_NUMBER) {
                return ERROR;
            }
            boolean holds = name == LESS ? first < second : first == second;
            return holds ? WELL : FAILED;
        }

        private int tryRule(int at, int rule, int name) {
            int height = choices.size;
            int later = rules.firstFor(name, rule + 1);
            if (later != NONE) {
                choices.make(at, later, cells);
            }
            Clause clause = rules.clauses[rule];
            if (!hasRoomFor(clause)) {
                collector.run(at, Integer.bitCount(question.variables));
                if (!hasRoomFor(clause)) {
                    return BEYOND_LIMIT;
                }
            }
            cells.copy(clause);
            // The collection may have moved the goal, so it is read only here.
            int outcome = unifier.unify(cells.copied[0], goals.term[at]);
            if (outcome == WELL) {
                bringGoals(1, height);
            }
            return outcome;
        }

        private boolean hasRoomFor(Clause clause) {
            return cells.used + clause.cellsOfCopy <= MOST_CELLS;
        }

        /** Those copied from that one on come in front. */
        private void bringGoals(int from, int height) {
            int at = Math.max(firstGoal + 1, choices.goalsKept());
            for (int i = cells.copiedCount - 1; i >= from; i--) {
                goals.set(at, cells.copied[i], height, firstGoal);
                firstGoal = at;
                at++;
            }
        }

        void tryOtherWay() {
            if (choices.size == 0) {
                state = OVER;
                return;
            }
            int latest = choices.size - 1;
            choices.cutTo(latest);
            cells.goBack(choices.cellMark[latest], choices.trailMark[latest]);
            firstGoal = choices.firstGoal[latest];
            saidRule = choices.nextRule[latest];
            state = RUNNING;
        }

        int freeCells() {
            return collector.run(firstGoal, Integer.bitCount(question.variables));
        }

        int cellsInUse() {
            return state == OVER ? 0 : cells.used;
        }

        int choicesLeft() {
            return state == OVER ? 0 : choices.size;
        }

        int goalsAtHand() {
            return state == OVER ? 0 : goals.lengthFrom(firstGoal);
        }

        int collections() {
            return collector.collections;
        }

        int answerLength() {
            return state == ANSWERED ? answer.write(Integer.bitCount(question.variables)) : 0;
        }

        int answerWord(int i) {
            return answer.at(i);
        }
    }
}
