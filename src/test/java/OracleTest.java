import java.util.ArrayList;
import java.util.List;
import java.util.NoSuchElementException;
import java.util.Random;

/** Random runs of calls, every answer compared with that of a plain model which tries all inputs. */
public final class OracleTest {
    private OracleTest() {
    }

    public static void main(String[] args) {
        for (int run = 0; run < 400; run++) {
            Random random = new Random(run);
            int inputs = random.nextInt(8);
            runCalls(run, random, inputs, 60 + random.nextInt(200));
        }
        for (int run = 400; run < 430; run++) {
            Random random = new Random(run);
            runCalls(run, random, 9 + random.nextInt(4), 500);
        }
        Due.end();
    }

    private static void runCalls(int run, Random random, int inputs, int calls) {
        GateBench bench = new GateBench();
        Model model = new Model();
        for (int k = 0; k < inputs; k++) {
            Due.is("run " + run + ": input()", model.input(), bench.input());
        }
        for (int i = inputs; i < calls; i++) {
            oneCall("run " + run + ", call " + i + ": ", random, bench, model);
        }
        for (int k = 0; k < model.inputs.size(); k++) {
            int formula = model.inputs.get(k);
            Due.is("run " + run + ": input " + k + " at the end", model.value(formula), bench.value(formula));
        }
        Due.is("run " + run + ": doubts()", 0, bench.doubts());
    }

    /** Mostly a formula that is there, late ones more often, now and then none. */
    private static int anyFormula(Random random, Model model) {
        int formulas = model.kinds.size();
        if (random.nextInt(40) == 0) {
            return random.nextBoolean() ? -1 - random.nextInt(3) : formulas + random.nextInt(3);
        }
        return Math.max(random.nextInt(formulas), random.nextInt(formulas));
    }

    private static void oneCall(String at, Random random, GateBench bench, Model model) {
        int a = anyFormula(random, model);
        int b = anyFormula(random, model);
        int c = anyFormula(random, model);
        int op = random.nextInt(30) == 0 ? random.nextInt(7) - 3 : random.nextInt(3);
        boolean bit = random.nextBoolean();
        switch (random.nextInt(24)) {
            case 0 -> both(at + "input()", model::input, bench::input);
            case 1, 2, 3 -> both(at + "not " + a, () -> model.not(a), () -> bench.not(a));
            case 4, 5, 6, 7, 8, 9 -> both(at + "join " + op + " " + a + " " + b,
                    () -> model.join(op, a, b), () -> bench.join(op, a, b));
            case 10, 11 -> both(at + "choose " + c + " " + a + " " + b,
                    () -> model.choose(c, a, b), () -> bench.choose(c, a, b));
            case 12, 13, 14, 15 -> both(at + "want " + a, () -> model.want(a), () -> bench.want(a));
            case 16 -> {
                if (random.nextInt(3) == 0) {
                    both(at + "clear()", model::clear, bench::clear);
                }
            }
            case 17 -> both(at + "can()", model::can, bench::can);
            case 18 -> both(at + "shorten()", model::shorten, bench::shorten);
            case 19 -> {
                int i = random.nextInt(22) - 1;
                both(at + "wanted " + i, () -> model.wanted(i), () -> bench.wanted(i));
            }
            case 20 -> both(at + "same " + a + " " + b, () -> model.same(a, b), () -> bench.same(a, b));
            case 21 -> {
                int k = random.nextInt(14) - 1;
                both(at + "put " + k, () -> model.put(k, bit), () -> bench.put(k, bit));
            }
            case 22 -> both(at + "value " + a, () -> model.value(a), () -> bench.value(a));
            default -> both(at + "count " + op, () -> model.count(op), () -> bench.count(op));
        }
    }

    private static void both(String what, Due.Call model, Due.Call bench) {
        Due.is(what, Due.answerOf(model), Due.answerOf(bench));
    }

    /** Holds of each formula what it is for every row of inputs; row r has input k in bit 11 - k. */
    private static final class Model {
        private static final int ROWS = 1 << 12;
        private final List<boolean[]> kinds = new ArrayList<>();
        private final List<Integer> inputs = new ArrayList<>();
        private final List<Integer> list = new ArrayList<>();
        private int row;

        Model() {
            kinds.add(new boolean[ROWS]);
        }

        private boolean[] table(int formula) {
            if (formula < 0 || formula >= kinds.size()) {
                throw new NoSuchElementException();
            }
            return kinds.get(formula);
        }

        private static int bit(int k) {
            return 1 << 11 - k;
        }

        int input() {
            if (inputs.size() == 12) {
                throw new IllegalStateException();
            }
            boolean[] made = new boolean[ROWS];
            for (int r = 0; r < ROWS; r++) {
                made[r] = (r & bit(inputs.size())) != 0;
            }
            inputs.add(kinds.size());
            kinds.add(made);
            return kinds.size() - 1;
        }

        int not(int a) {
            boolean[] x = table(a);
            boolean[] made = new boolean[ROWS];
            for (int r = 0; r < ROWS; r++) {
                made[r] = !x[r];
            }
            kinds.add(made);
            return kinds.size() - 1;
        }

        int join(int op, int a, int b) {
            boolean[] x = table(a);
            boolean[] y = table(b);
            if (op < 0 || op > 2) {
                throw new IllegalArgumentException();
            }
            boolean[] made = new boolean[ROWS];
            for (int r = 0; r < ROWS; r++) {
                made[r] = op == 0 ? x[r] & y[r] : op == 1 ? x[r] | y[r] : x[r] ^ y[r];
            }
            kinds.add(made);
            return kinds.size() - 1;
        }

        int choose(int c, int a, int b) {
            boolean[] chooser = table(c);
            boolean[] x = table(a);
            boolean[] y = table(b);
            boolean[] made = new boolean[ROWS];
            for (int r = 0; r < ROWS; r++) {
                made[r] = chooser[r] ? x[r] : y[r];
            }
            kinds.add(made);
            return kinds.size() - 1;
        }

        int want(int a) {
            table(a);
            if (list.size() == 20) {
                throw new IllegalStateException();
            }
            list.add(a);
            return list.size();
        }

        int clear() {
            int had = list.size();
            list.clear();
            return had;
        }

        private int leastRow(List<Integer> wanted) {
            rows:
            for (int r = 0; r < ROWS; r++) {
                for (int formula : wanted) {
                    if (!kinds.get(formula)[r]) {
                        continue rows;
                    }
                }
                return r;
            }
            return -1;
        }

        boolean can() {
            int found = leastRow(list);
            row = found < 0 ? row : found;
            return found >= 0;
        }

        int shorten() {
            if (leastRow(list) >= 0) {
                return -1;
            }
            int at = 0;
            while (at < list.size()) {
                List<Integer> without = new ArrayList<>(list);
                without.remove(at);
                if (leastRow(without) < 0) {
                    list.remove(at);
                } else {
                    at++;
                }
            }
            return list.size();
        }

        int wanted(int i) {
            if (i < 0 || i >= list.size()) {
                throw new NoSuchElementException();
            }
            return list.get(i);
        }

        boolean same(int a, int b) {
            boolean[] x = table(a);
            boolean[] y = table(b);
            for (int r = 0; r < ROWS; r++) {
                if (x[r] != y[r]) {
                    row = r;
                    return false;
                }
            }
            return true;
        }

        boolean put(int k, boolean value) {
            if (k < 0 || k >= inputs.size()) {
                throw new NoSuchElementException();
            }
            boolean was = (row & bit(k)) != 0;
            row = value ? row | bit(k) : row & ~bit(k);
            return was;
        }

        boolean value(int a) {
            return table(a)[row];
        }

        int count(int what) {
            return what == 0 ? kinds.size() : what == 1 ? inputs.size() : what == 2 ? list.size() : -1;
        }
    }
}
