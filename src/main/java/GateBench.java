import java.util.NoSuchElementException;

/**
 * A bench for circuits of gates: whether some inputs make formulas true together, the least ones
 * that do, whether two formulas are the same for all inputs.
 *
 * <p>A literal is twice the number of a formula, and one more for its opposite: so the opposite of
 * any literal is one flipped bit away, and literal 0, that of FALSE, never holds.
 */
public final class GateBench {
    private static final int MOST_INPUTS = 12;
    private static final int MOST_FORMULAS = 2000;
    private static final int MOST_WANTED = 20;

    private static final int BOTH = 0;
    private static final int ONE_AT_LEAST = 1;
    private static final int JUST_ONE = 2;

    private static final int NEVER = 0;
    private static final int ALWAYS = 1;

    private static final int NONE = -1;
    private static final int SEVERAL = -2;

    /** A lesson is a set of inputs, and no set is learned twice. */
    private static final int MOST_LESSONS = 1 << MOST_INPUTS;
    private static final int MOST_GIVEN = 6 * MOST_FORMULAS + MOST_WANTED;
    private static final int MOST_CLAUSES = MOST_GIVEN + MOST_LESSONS;
    private static final int MOST_LITERALS = 3 * MOST_GIVEN + MOST_INPUTS * MOST_LESSONS;

    private final Circuit circuit;
    private final Clauses clauses;
    private final Checker checker;
    private final Search search;
    private final int[] list;
    private int listLength;
    private int unproved;

    public GateBench() {
        circuit = new Circuit();
        clauses = new Clauses();
        checker = new Checker(clauses);
        search = new Search(circuit, clauses, checker);
        list = new int[MOST_WANTED];
    }

    public int input() throws IllegalStateException {
        if (circuit.inputs == MOST_INPUTS) {
            throw new IllegalStateException("there are 12 inputs");
        }
        requireRoom();
        return circuit.addInput();
    }

    public int not(int a) throws NoSuchElementException, IllegalStateException {
        requireFormula(a);
        requireRoom();
        return circuit.addGate(literal(a), NEVER, ALWAYS);
    }

    public int join(int op, int a, int b)
            throws NoSuchElementException, IllegalArgumentException, IllegalStateException {
        requireFormula(a);
        requireFormula(b);
        if (op != BOTH && op != ONE_AT_LEAST && op != JUST_ONE) {
            throw new IllegalArgumentException("there is no such op");
        }
        requireRoom();
        if (op == BOTH) {
            return circuit.addGate(literal(a), literal(b), NEVER);
        }
        if (op == ONE_AT_LEAST) {
            return circuit.addGate(literal(a), ALWAYS, literal(b));
        }
        return circuit.addGate(literal(a), opposite(literal(b)), literal(b));
    }

    public int choose(int c, int a, int b) throws NoSuchElementException, IllegalStateException {
        requireFormula(c);
        requireFormula(a);
        requireFormula(b);
        requireRoom();
        return circuit.addGate(literal(c), literal(a), literal(b));
    }

    public int want(int a) throws NoSuchElementException, IllegalStateException {
        requireFormula(a);
        if (listLength == MOST_WANTED) {
            throw new IllegalStateException("20 formulas are wanted");
        }
        list[listLength] = a;
        listLength++;
        return listLength;
    }

    public int clear() {
        int had = listLength;
        listLength = 0;
        return had;
    }

    public boolean can() {
        askForListWithout(NONE);
        boolean found = findInputs();
        if (found) {
            takeInputsFound();
        }
        return found;
    }

    public int shorten() {
        askForListWithout(NONE);
        if (findInputs()) {
            return -1;
        }
        int stayed = 0;
        for (int left = listLength; left > 0; left--) {
            askForListWithout(stayed);
            if (findInputs()) {
                stayed++;
            } else {
                dropWanted(stayed);
            }
        }
        return listLength;
    }

    public int wanted(int i) throws NoSuchElementException {
        if (i < 0 || i >= listLength) {
            throw new NoSuchElementException("the list has no such place");
        }
        return list[i];
    }

    public boolean same(int a, int b) throws NoSuchElementException {
        requireFormula(a);
        requireFormula(b);
        askForDifference(a, b);
        boolean found = findInputs();
        if (found) {
            takeInputsFound();
        }
        return !found;
    }

    public boolean put(int k, boolean value) throws NoSuchElementException {
        if (k < 0 || k >= circuit.inputs) {
            throw new NoSuchElementException("there is no such input");
        }
        int formula = circuit.formulaOfInput[k];
        boolean was = circuit.truth[formula];
        circuit.truth[formula] = value;
        return was;
    }

    public boolean value(int a) throws NoSuchElementException {
        requireFormula(a);
        return circuit.evaluate(a);
    }

    public int doubts() {
        return unproved;
    }

    public int count(int what) {
        switch (what) {
            case 0:
                return circuit.formulas;
            case 1:
                return circuit.inputs;
            case 2:
                return listLength;
            default:
                return -1;
        }
    }

    private static int literal(int formula) {
        return 2 * formula;
    }

    private static int opposite(int literal) {
        return literal ^ 1;
    }

    private static int formulaOf(int literal) {
        return literal >> 1;
    }

    private void requireFormula(int a) {
        if (a < 0 || a >= circuit.formulas) {
            throw new NoSuchElementException("there is no such formula");
        }
    }

    private void requireRoom() {
        if (circuit.formulas == MOST_FORMULAS) {
            throw new IllegalStateException("there are 2,000 formulas");
        }
    }

    /** All of the list but the one at a place are to be true; all of it if the place is NONE. */
    private void askForListWithout(int place) {
        clauses.removeAll();
        circuit.forgetAims();
        for (int i = 0; i < listLength; i++) {
            if (i != place) {
                clauses.add(literal(list[i]), NEVER, NEVER);
                circuit.aimAt(list[i]);
            }
        }
        circuit.describeAims(clauses);
    }

    private void askForDifference(int a, int b) {
        clauses.removeAll();
        circuit.forgetAims();
        clauses.add(literal(a), literal(b), NEVER);
        clauses.add(opposite(literal(a)), opposite(literal(b)), NEVER);
        circuit.aimAt(a);
        circuit.aimAt(b);
        circuit.describeAims(clauses);
    }

    private boolean findInputs() {
        checker.begin();
        boolean found = search.findsLeast();
        if (!found && !checker.hasRefutation()) {
            unproved++;
        }
        return found;
    }

    private void takeInputsFound() {
        for (int k = 0; k < circuit.inputs; k++) {
            int formula = circuit.formulaOfInput[k];
            circuit.truth[formula] = search.makesTrue(formula);
        }
    }

    private void dropWanted(int place) {
        listLength--;
        for (int i = place; i < listLength; i++) {
            list[i] = list[i + 1];
        }
    }

    /**
     * The formulas. Every gate is a choice between two literals by a third, so that one kind of
     * gate serves all the operations and one set of clauses describes it.
     */
    static final class Circuit {
        private final int[] chooser = new int[MOST_FORMULAS];
        private final int[] ifTrue = new int[MOST_FORMULAS];
        private final int[] ifFalse = new int[MOST_FORMULAS];
        private final boolean[] truth = new boolean[MOST_FORMULAS];
        private final boolean[] matters = new boolean[MOST_FORMULAS];
        private final int[] formulaOfInput = new int[MOST_INPUTS];
        private int formulas;
        private int inputs;

        Circuit() {
            chooser[0] = NONE;
            formulas = 1;
        }

        int addInput() {
            formulaOfInput[inputs] = formulas;
            inputs++;
            return addGate(NONE, NEVER, NEVER);
        }

        int addGate(int choosing, int literalIfTrue, int literalIfFalse) {
            int formula = formulas;
            chooser[formula] = choosing;
            ifTrue[formula] = literalIfTrue;
            ifFalse[formula] = literalIfFalse;
            formulas++;
            return formula;
        }

        /** A gate looks only at formulas before it, so one pass upwards is enough. */
        boolean evaluate(int formula) {
            for (int f = 1; f <= formula; f++) {
                if (chooser[f] != NONE) {
                    truth[f] = isTrue(chooser[f]) ? isTrue(ifTrue[f]) : isTrue(ifFalse[f]);
                }
            }
            return truth[formula];
        }

        private boolean isTrue(int literal) {
            return truth[formulaOf(literal)] == ((literal & 1) == 0);
        }

        void forgetAims() {
            for (int f = 0; f < formulas; f++) {
                matters[f] = false;
            }
        }

        void aimAt(int formula) {
            matters[formula] = true;
        }

        /** Gates that no aim looks at, not even through others, would only slow the search. */
        void describeAims(Clauses into) {
            for (int f = formulas - 1; f > 0; f--) {
                if (matters[f] && chooser[f] != NONE) {
                    aimAt(formulaOf(chooser[f]));
                    aimAt(formulaOf(ifTrue[f]));
                    aimAt(formulaOf(ifFalse[f]));
                    describeGate(f, into);
                }
            }
        }

        /** The last two clauses follow from the others, but tell of the gate before its chooser is known. */
        private void describeGate(int formula, Clauses into) {
            int gate = literal(formula);
            int c = chooser[formula];
            int a = ifTrue[formula];
            int b = ifFalse[formula];
            into.add(opposite(c), opposite(a), gate);
            into.add(opposite(c), a, opposite(gate));
            into.add(c, opposite(b), gate);
            into.add(c, b, opposite(gate));
            into.add(opposite(a), opposite(b), gate);
            into.add(a, b, opposite(gate));
        }
    }

    /** Rows of literals; of each row one at least has to hold. */
    static final class Clauses {
        private final int[] literals = new int[MOST_LITERALS];
        private final int[] start = new int[MOST_CLAUSES + 1];
        private int total;
        private int used;

        void removeAll() {
            total = 0;
            used = 0;
        }

        /** NEVER fills a place that is not needed; a clause that holds anyway is left out. */
        void add(int x, int y, int z) {
            if (x == ALWAYS || y == ALWAYS || z == ALWAYS) {
                return;
            }
            if (x == opposite(y) || x == opposite(z) || y == opposite(z)) {
                return;
            }
            if (x != NEVER) {
                append(x);
            }
            if (y != NEVER && y != x) {
                append(y);
            }
            if (z != NEVER && z != x && z != y) {
                append(z);
            }
            close();
        }

        void append(int literal) {
            literals[used] = literal;
            used++;
        }

        /** What was appended since the last clause becomes one: its number. */
        int close() {
            int clause = total;
            total++;
            start[total] = used;
            return clause;
        }

        int sizeOf(int clause) {
            return start[clause + 1] - start[clause];
        }
    }

    /**
     * Goes through a refutation step by step, as it comes. It trusts the clauses that are there
     * when it begins, and of the search's lessons only those that follow from what it trusts
     * already: once it has refused one it trusts no later one, for they may rest on it.
     */
    static final class Checker {
        private final Clauses clauses;
        private final int[] failsInStep = new int[2 * MOST_FORMULAS];
        private int step;
        private int trusted;
        private boolean refuted;

        Checker(Clauses clauses) {
            this.clauses = clauses;
        }

        void begin() {
            trusted = clauses.total;
            refuted = false;
        }

        boolean hasRefutation() {
            return refuted;
        }

        void goThrough(int lesson, int[] hints, int hintCount) {
            if (lesson == trusted && follows(lesson, hints, hintCount)) {
                trusted++;
                refuted = refuted || clauses.sizeOf(lesson) == 0;
            }
        }

        /**
         * If all literals of the lesson failed, each hint in turn would force the one literal that
         * it has left, until one has none left: so they can't all fail.
         */
        private boolean follows(int lesson, int[] hints, int hintCount) {
            step++;
            for (int at = clauses.start[lesson]; at < clauses.start[lesson + 1]; at++) {
                failsInStep[clauses.literals[at]] = step;
            }
            for (int i = 0; i < hintCount; i++) {
                if (hints[i] < 0 || hints[i] >= trusted) {
                    return false;
                }
                int left = literalLeft(hints[i]);
                if (left < 0) {
                    return left == NONE;
                }
                failsInStep[opposite(left)] = step;
            }
            return false;
        }

        private int literalLeft(int clause) {
            int left = NONE;
            for (int at = clauses.start[clause]; at < clauses.start[clause + 1]; at++) {
                if (failsInStep[clauses.literals[at]] != step) {
                    left = left == NONE ? clauses.literals[at] : SEVERAL;
                }
            }
            return left;
        }
    }

    /** The literals that hold, in the order in which they came, each with the clause that forced it. */
    static final class Trail {
        private final boolean[] holds = new boolean[2 * MOST_FORMULAS];
        private final int[] forcedBy = new int[2 * MOST_FORMULAS];
        private final int[] order = new int[MOST_FORMULAS];
        private final int[] levelStart = new int[MOST_INPUTS];
        private int length;
        private int levels;

        void restart() {
            cutTo(0);
            levels = 0;
        }

        boolean isOpen(int literal) {
            return !holds[literal] && !holds[opposite(literal)];
        }

        /** A literal that is tried rests on no clause and opens a level, to be taken back as a whole. */
        void attempt(int literal) {
            levelStart[levels] = length;
            levels++;
            hold(literal, NONE);
        }

        void hold(int literal, int clause) {
            holds[literal] = true;
            forcedBy[literal] = clause;
            order[length] = literal;
            length++;
        }

        /** Takes back the levels above that of a tried literal; all of them if it is NONE. */
        void goBackTo(int tried) {
            int end = length;
            while (levels > 0 && order[levelStart[levels - 1]] != tried) {
                levels--;
                end = levelStart[levels];
            }
            cutTo(end);
        }

        private void cutTo(int end) {
            for (int at = end; at < length; at++) {
                holds[order[at]] = false;
            }
            length = end;
        }
    }

    /**
     * Tries the inputs in their order, each with false, and learns from every clash which of the
     * tried ones can't be false together. So an input is true only where the false ones before it
     * force it to be, and the first inputs that are found are the least.
     *
     * <p>A clause is looked at only when one of its first two literals fails: as long as neither
     * does it can force nothing.
     */
    static final class Search {
        private final Circuit circuit;
        private final Clauses clauses;
        private final Checker checker;
        private final Trail trail = new Trail();
        /** Watches 2n and 2n + 1 are those of clause n: chained by the literal that each watches. */
        private final int[] firstWatch = new int[2 * MOST_FORMULAS];
        private final int[] nextWatch = new int[2 * MOST_CLAUSES];
        private final boolean[] involved = new boolean[MOST_FORMULAS];
        private final int[] hints = new int[MOST_FORMULAS + 1];
        private int hintCount;
        private int followed;

        Search(Circuit circuit, Clauses clauses, Checker checker) {
            this.circuit = circuit;
            this.clauses = clauses;
            this.checker = checker;
        }

        boolean makesTrue(int formula) {
            return trail.holds[literal(formula)];
        }

        boolean findsLeast() {
            int clash = takeUpClauses();
            for (int lessons = 0; lessons < MOST_LESSONS; lessons++) {
                if (clash == NONE) {
                    clash = tryInputs();
                }
                if (clash == NONE) {
                    return true;
                }
                int lesson = learn(clash);
                if (clauses.sizeOf(lesson) == 0) {
                    return false;
                }
                applyLesson(lesson);
                clash = NONE;
            }
            return false;
        }

        private void startAnew() {
            trail.restart();
            followed = 0;
            for (int literal = 0; literal < 2 * circuit.formulas; literal++) {
                firstWatch[literal] = NONE;
            }
        }

        /** A clause of no or one literal has nothing to watch: it clashes or forces at once. */
        private int takeUpClauses() {
            startAnew();
            int clash = NONE;
            for (int clause = 0; clause < clauses.total; clause++) {
                int size = clauses.sizeOf(clause);
                int literal = size == 0 ? NEVER : clauses.literals[clauses.start[clause]];
                if (size > 1) {
                    watchBoth(clause);
                } else if (size == 0 || trail.holds[opposite(literal)]) {
                    clash = clause;
                } else if (trail.isOpen(literal)) {
                    trail.hold(literal, clause);
                }
            }
            return clash;
        }

        /** When all inputs are tried every gate has been forced, so no clash means that all clauses hold. */
        private int tryInputs() {
            int clash = followAll();
            for (int k = 0; k < circuit.inputs && clash == NONE; k++) {
                int literal = literal(circuit.formulaOfInput[k]);
                if (trail.isOpen(literal)) {
                    trail.attempt(opposite(literal));
                    clash = followAll();
                }
            }
            return clash;
        }

        private int followAll() {
            int clash = NONE;
            for (; followed < trail.length && followed < MOST_FORMULAS && clash == NONE; followed++) {
                clash = leaveFailing(opposite(trail.order[followed]));
            }
            return clash;
        }

        /** Moves the watches of a failing literal elsewhere; a clause that has no elsewhere forces or clashes. */
        private int leaveFailing(int literal) {
            int stayed = NONE;
            int watch = firstWatch[literal];
            for (int seen = 0; seen < nextWatch.length && watch != NONE; seen++) {
                int next = nextWatch[watch];
                int clause = watch >> 1;
                int other = clauses.literals[clauses.start[clause] + (opposite(watch) & 1)];
                int place = trail.holds[other] ? NONE : placeToWatch(clause);
                if (place != NONE) {
                    moveWatch(watch, place);
                    unlink(literal, stayed, next);
                } else {
                    stayed = watch;
                    if (trail.holds[opposite(other)]) {
                        return clause;
                    }
                    if (!trail.holds[other]) {
                        trail.hold(other, clause);
                    }
                }
                watch = next;
            }
            return NONE;
        }

        private int placeToWatch(int clause) {
            for (int at = clauses.start[clause] + 2; at < clauses.start[clause + 1]; at++) {
                if (!trail.holds[opposite(clauses.literals[at])]) {
                    return at;
                }
            }
            return NONE;
        }

        private void moveWatch(int watch, int to) {
            int from = clauses.start[watch >> 1] + (watch & 1);
            int literal = clauses.literals[to];
            clauses.literals[to] = clauses.literals[from];
            clauses.literals[from] = literal;
            nextWatch[watch] = firstWatch[literal];
            firstWatch[literal] = watch;
        }

        private void unlink(int literal, int before, int next) {
            if (before == NONE) {
                firstWatch[literal] = next;
            } else {
                nextWatch[before] = next;
            }
        }

        private void watchBoth(int clause) {
            for (int which = 0; which < 2; which++) {
                int literal = clauses.literals[clauses.start[clause] + which];
                int watch = 2 * clause + which;
                nextWatch[watch] = firstWatch[literal];
                firstWatch[literal] = watch;
            }
        }

        /** Of the tried inputs, those on which the clash rests can't all be false; the last tried stands first. */
        private int learn(int clash) {
            involve(clash);
            for (int at = trail.length - 1; at >= 0; at--) {
                int literal = trail.order[at];
                if (involved[formulaOf(literal)]) {
                    if (trail.forcedBy[literal] == NONE) {
                        clauses.append(opposite(literal));
                    } else {
                        involve(trail.forcedBy[literal]);
                    }
                }
            }
            int lesson = clauses.close();
            collectHints(clash);
            checker.goThrough(lesson, hints, hintCount);
            return lesson;
        }

        private void involve(int clause) {
            for (int at = clauses.start[clause]; at < clauses.start[clause + 1]; at++) {
                involved[formulaOf(clauses.literals[at])] = true;
            }
        }

        /** The checker takes the clauses in the order in which they forced their literals. */
        private void collectHints(int clash) {
            hintCount = 0;
            for (int at = 0; at < trail.length; at++) {
                int literal = trail.order[at];
                if (involved[formulaOf(literal)] && trail.forcedBy[literal] != NONE) {
                    hints[hintCount] = trail.forcedBy[literal];
                    hintCount++;
                }
                involved[formulaOf(literal)] = false;
            }
            hints[hintCount] = clash;
            hintCount++;
        }

        /** Goes back to where the lesson would first have forced its first literal, and forces it there. */
        private void applyLesson(int lesson) {
            int first = clauses.start[lesson];
            if (clauses.sizeOf(lesson) > 1) {
                trail.goBackTo(opposite(clauses.literals[first + 1]));
                watchBoth(lesson);
            } else {
                trail.goBackTo(NONE);
            }
            followed = trail.length;
            trail.hold(clauses.literals[first], lesson);
        }
    }
}
