import java.lang.reflect.Field;

/** Promise 14 from the inside: what the checker refuses, and that a refusal becomes a doubt. */
public final class CheckerTest {
    private CheckerTest() {
    }

    public static void main(String[] args) throws ReflectiveOperationException {
        acceptsARefutation();
        refusesWhatDoesNotFollow();
        refusesWrongHints();
        trustsNothingBehindARefusal();
        trustsNoLessonItHasNotSeen();
        beginsAnew();
        refusalsAreDoubts();
        Due.end();
    }

    /** Formula n is literal 2n, its opposite 2n + 1: all four clauses over formulas 1 and 2. */
    private static GateBench.Clauses fourClauses() {
        GateBench.Clauses clauses = new GateBench.Clauses();
        clauses.add(2, 4, 0);
        clauses.add(2, 5, 0);
        clauses.add(3, 4, 0);
        clauses.add(3, 5, 0);
        return clauses;
    }

    private static int lesson(GateBench.Clauses clauses, int... literals) {
        for (int literal : literals) {
            clauses.append(literal);
        }
        return clauses.close();
    }

    private static void step(GateBench.Checker checker, int lesson, int... hints) {
        checker.goThrough(lesson, hints, hints.length);
    }

    private static void acceptsARefutation() {
        GateBench.Clauses clauses = fourClauses();
        GateBench.Checker checker = new GateBench.Checker(clauses);
        checker.begin();
        Due.is("at the beginning", false, checker.hasRefutation());
        step(checker, lesson(clauses, 2), 0, 1);
        Due.is("a lesson that is not empty", false, checker.hasRefutation());
        step(checker, lesson(clauses), 4, 2, 3);
        Due.is("the empty lesson", true, checker.hasRefutation());
    }

    private static void refusesWhatDoesNotFollow() {
        GateBench.Clauses clauses = new GateBench.Clauses();
        clauses.add(2, 4, 0);
        clauses.add(3, 5, 0);
        GateBench.Checker checker = new GateBench.Checker(clauses);
        checker.begin();
        step(checker, lesson(clauses), 0, 1);
        Due.is("two literals are left", false, checker.hasRefutation());
        checker = new GateBench.Checker(clauses);
        clauses.removeAll();
        clauses.add(2, 0, 0);
        checker.begin();
        step(checker, lesson(clauses), 0);
        Due.is("no clash at the end", false, checker.hasRefutation());
    }

    private static void refusesWrongHints() {
        int[][] wrong = {{}, {4}, {-1}, {5, 0}, {0, 4}};
        for (int[] hints : wrong) {
            GateBench.Clauses clauses = fourClauses();
            GateBench.Checker checker = new GateBench.Checker(clauses);
            checker.begin();
            step(checker, lesson(clauses), hints);
            Due.is("hints " + java.util.Arrays.toString(hints), false, checker.hasRefutation());
        }
    }

    private static void trustsNothingBehindARefusal() {
        GateBench.Clauses clauses = new GateBench.Clauses();
        clauses.add(2, 4, 0);
        clauses.add(3, 0, 0);
        GateBench.Checker checker = new GateBench.Checker(clauses);
        checker.begin();
        step(checker, lesson(clauses, 5), 0, 1);
        step(checker, lesson(clauses), 1, 2, 0);
        Due.is("a refutation that rests on a refused lesson", false, checker.hasRefutation());
    }

    private static void trustsNoLessonItHasNotSeen() {
        GateBench.Clauses clauses = new GateBench.Clauses();
        clauses.add(2, 0, 0);
        GateBench.Checker checker = new GateBench.Checker(clauses);
        checker.begin();
        lesson(clauses, 3);
        step(checker, lesson(clauses), 0, 1);
        Due.is("a refutation that rests on a lesson never shown", false, checker.hasRefutation());
        clauses.removeAll();
        clauses.add(2, 0, 0);
        checker.begin();
        lesson(clauses, 3);
        step(checker, lesson(clauses, 2), 0);
        step(checker, lesson(clauses), 0, 1);
        Due.is("one that hides behind a lesson which follows", false, checker.hasRefutation());
    }

    private static void beginsAnew() {
        GateBench.Clauses clauses = fourClauses();
        GateBench.Checker checker = new GateBench.Checker(clauses);
        checker.begin();
        step(checker, lesson(clauses, 2), 0, 1);
        step(checker, lesson(clauses), 4, 2, 3);
        clauses.removeAll();
        clauses.add(2, 0, 0);
        checker.begin();
        Due.is("an earlier refutation", false, checker.hasRefutation());
    }

    /** The bench's checker is exchanged for one that looks elsewhere and so never accepts anything. */
    private static void refusalsAreDoubts() throws ReflectiveOperationException {
        GateBench x = new GateBench();
        Field field = GateBench.class.getDeclaredField("checker");
        field.setAccessible(true);
        field.set(x, new GateBench.Checker(new GateBench.Clauses()));
        x.input();
        Due.is("some inputs", false, x.same(0, 1));
        Due.is("found inputs need no refutation", 0, x.doubts());
        x.want(0);
        Due.is("none", false, x.can());
        Due.is("the first doubt", 1, x.doubts());
        Due.is("the same", true, x.same(1, 1));
        Due.is("the second doubt", 2, x.doubts());
        Due.is("one left", 1, x.shorten());
        Due.is("a doubt of shorten", true, x.doubts() > 2);
    }
}
