/** Each promise of the document by itself, with ordinary inputs; BoundariesTest has the edges and the refused calls. */
public final class PromisesTest {
    private PromisesTest() {
    }

    public static void main(String[] args) {
        newObject();
        input();
        not();
        join();
        choose();
        want();
        clear();
        can();
        canIsLeast();
        canStays();
        shorten();
        shortenGoesFromTheFirstOn();
        shortenStays();
        wanted();
        same();
        sameIsLeast();
        put();
        value();
        doubts();
        count();
        Due.end();
    }

    private static void newObject() {
        GateBench x = new GateBench();
        Due.is("1: formulas of a new object", 1, x.count(0));
        Due.is("1: inputs of a new object", 0, x.count(1));
        Due.is("1: list of a new object", 0, x.count(2));
        Due.is("1: formula 0", false, x.value(0));
        Due.is("1: doubts of a new object", 0, x.doubts());
        GateBench y = new GateBench();
        x.input();
        x.want(1);
        Due.is("1: another object's formulas", 1, y.count(0));
        Due.is("1: another object's list", 0, y.count(2));
    }

    private static void input() {
        GateBench x = new GateBench();
        Due.is("2: first input", 1, x.input());
        Due.is("2: a new input is false", false, x.value(1));
        Due.is("2: a gate", 2, x.not(1));
        Due.is("2: input behind a gate", 3, x.input());
        x.put(1, true);
        Due.is("2: input 1 is formula 3", true, x.value(3));
        Due.is("2: and not formula 1", false, x.value(1));
        for (int k = 2; k < 12; k++) {
            Due.is("2: input " + k, k + 2, x.input());
        }
        Due.is("2: the next number", 14, x.not(0));
    }

    private static void not() {
        GateBench x = Benches.withInputs(1);
        Due.is("3: number", 2, x.not(1));
        Due.is("3: number of one like it", 3, x.not(1));
        Due.is("3: table", "10", Benches.table(x, 2));
        Due.is("3: not of FALSE", 4, x.not(0));
        Due.is("3: its table", "11", Benches.table(x, 4));
        Due.is("3: not of not", 5, x.not(2));
        Due.is("3: its table", "01", Benches.table(x, 5));
    }

    private static void join() {
        GateBench x = Benches.withInputs(2);
        Due.is("4: number", 3, x.join(0, 1, 2));
        Due.is("4: both", "0001", Benches.table(x, 3));
        Due.is("4: one at least", "0111", Benches.table(x, x.join(1, 1, 2)));
        Due.is("4: just one", "0110", Benches.table(x, x.join(2, 1, 2)));
        Due.is("4: number of one like it", 6, x.join(0, 1, 2));
        Due.is("4: both of one", "0011", Benches.table(x, x.join(0, 1, 1)));
        Due.is("4: one at least of one", "0011", Benches.table(x, x.join(1, 1, 1)));
        Due.is("4: just one of one", "0000", Benches.table(x, x.join(2, 1, 1)));
        Due.is("4: both with FALSE", "0000", Benches.table(x, x.join(0, 1, 0)));
        Due.is("4: one at least with FALSE", "0101", Benches.table(x, x.join(1, 0, 2)));
        Due.is("4: just one with FALSE", "0101", Benches.table(x, x.join(2, 0, 2)));
    }

    private static void choose() {
        GateBench x = Benches.withInputs(3);
        Due.is("5: number", 4, x.choose(1, 2, 3));
        Due.is("5: table", "01010011", Benches.table(x, 4));
        Due.is("5: number of one like it", 5, x.choose(1, 2, 3));
        Due.is("5: chooser first", "00001111", Benches.table(x, x.choose(1, 1, 0)));
        Due.is("5: chooser last", "00000011", Benches.table(x, x.choose(1, 2, 1)));
        Due.is("5: two alike", "00110011", Benches.table(x, x.choose(1, 2, 2)));
        Due.is("5: FALSE chooses", "01010101", Benches.table(x, x.choose(0, 2, 3)));
    }

    private static void want() {
        GateBench x = Benches.withInputs(2);
        Due.is("6: first", 1, x.want(2));
        Due.is("6: the same again", 2, x.want(2));
        Due.is("6: FALSE", 3, x.want(0));
        Due.is("6: order", "2 2 0 ", Benches.listOf(x));
        Due.is("6: list stays", 3, x.count(2));
        for (int i = 3; i < 20; i++) {
            Due.is("6: want " + i, i + 1, x.want(1));
        }
        Due.is("6: full list stays", 20, x.count(2));
        Due.is("6: its end", 1, x.wanted(19));
    }

    private static void clear() {
        GateBench x = Benches.withInputs(2);
        Due.is("7: of an empty list", 0, x.clear());
        x.want(1);
        x.want(2);
        x.put(1, true);
        Due.is("7: of two", 2, x.clear());
        Due.is("7: list is empty", 0, x.count(2));
        Due.is("7: inputs stay", "01", Benches.inputsOf(x));
        Due.is("7: formulas stay", 3, x.count(0));
        Due.is("7: want behind it", 1, x.want(2));
        Due.is("7: its place", 2, x.wanted(0));
        x.clear();
        x.want(0);
        Due.is("7: what was wanted counts no more", false, x.can());
    }

    private static void can() {
        GateBench empty = new GateBench();
        Due.is("8: nothing at all", true, empty.can());
        empty.want(0);
        Due.is("8: FALSE without inputs", false, empty.can());
        GateBench x = Benches.withInputs(3);
        Benches.put(x, "111");
        Due.is("8: of an empty list", true, x.can());
        Due.is("8: all false then", "000", Benches.inputsOf(x));
        x.want(2);
        Due.is("8: an input", true, x.can());
        Due.is("8: the least", "010", Benches.inputsOf(x));
        x.want(x.not(2));
        Due.is("8: it and its opposite", false, x.can());
        x.clear();
        int different = x.join(2, 1, 3);
        x.want(different);
        x.want(different);
        x.want(x.choose(2, 1, 3));
        Benches.put(x, "110");
        Due.is("8: several", true, x.can());
        Due.is("8: their least", "001", Benches.inputsOf(x));
        Due.is("8: list stays", 3, x.count(2));
    }

    private static void canIsLeast() {
        GateBench x = Benches.withInputs(3);
        x.want(x.join(1, 1, x.join(0, 2, 3)));
        Benches.put(x, "100");
        x.can();
        Due.is("8: the first that differs is false", "011", Benches.inputsOf(x));
        x.want(x.not(3));
        Benches.put(x, "111");
        x.can();
        Due.is("8: the first has to be true", "100", Benches.inputsOf(x));
        GateBench y = Benches.withInputs(12);
        int all = y.not(0);
        for (int k = 1; k <= 12; k++) {
            all = y.join(0, all, k);
        }
        y.want(all);
        Due.is("8: twelve inputs", true, y.can());
        Due.is("8: all true", "111111111111", Benches.inputsOf(y));
        y.clear();
        y.want(y.not(all));
        y.can();
        Due.is("8: all false", "000000000000", Benches.inputsOf(y));
    }

    private static void canStays() {
        GateBench x = Benches.withInputs(3);
        x.want(1);
        x.want(x.not(1));
        Benches.put(x, "011");
        Due.is("8: none", false, x.can());
        Due.is("8: inputs stay", "011", Benches.inputsOf(x));
        Due.is("8: list stays", "1 4 ", Benches.listOf(x));
    }

    private static void shorten() {
        GateBench x = Benches.withInputs(2);
        Due.is("9: an empty list", -1, x.shorten());
        x.want(1);
        x.want(2);
        Due.is("9: some inputs do", -1, x.shorten());
        Due.is("9: list stays", "1 2 ", Benches.listOf(x));
        int different = x.join(2, 1, 2);
        x.want(different);
        Due.is("9: all are needed", 3, x.shorten());
        Due.is("9: all stay", "1 2 3 ", Benches.listOf(x));
        x.want(0);
        Due.is("9: FALSE is enough", 1, x.shorten());
        Due.is("9: it stays", "0 ", Benches.listOf(x));
        x.want(0);
        x.want(0);
        Due.is("9: FALSE three times", 1, x.shorten());
        Due.is("9: it stays once", "0 ", Benches.listOf(x));
    }

    private static void shortenGoesFromTheFirstOn() {
        GateBench x = Benches.withInputs(3);
        int notFirst = x.not(1);
        int notSecond = x.not(2);
        x.want(1);
        x.want(2);
        x.want(notFirst);
        x.want(3);
        x.want(notSecond);
        Due.is("9: two ways to have none", 2, x.shorten());
        Due.is("9: the first way goes", "2 5 ", Benches.listOf(x));
        x.clear();
        x.want(2);
        x.want(1);
        x.want(1);
        x.want(notFirst);
        x.want(notFirst);
        Due.is("9: the same twice", 2, x.shorten());
        Due.is("9: the later stay", "1 4 ", Benches.listOf(x));
        x.clear();
        for (int i = 0; i < 9; i++) {
            x.want(1);
        }
        for (int i = 0; i < 11; i++) {
            x.want(i == 5 ? notFirst : 3);
        }
        Due.is("9: a full list", 2, x.shorten());
        Due.is("9: two of it stay", "1 4 ", Benches.listOf(x));
    }

    private static void shortenStays() {
        GateBench x = Benches.withInputs(3);
        Benches.put(x, "101");
        x.want(2);
        x.shorten();
        Due.is("9: inputs stay if some do", "101", Benches.inputsOf(x));
        x.want(x.not(2));
        x.want(3);
        x.shorten();
        Due.is("9: inputs stay if none do", "101", Benches.inputsOf(x));
        Due.is("9: what is left has none either", false, x.can());
    }

    private static void wanted() {
        GateBench x = Benches.withInputs(2);
        x.want(2);
        x.want(1);
        Due.is("10: first", 2, x.wanted(0));
        Due.is("10: second", 1, x.wanted(1));
        x.clear();
        x.want(1);
        x.want(0);
        x.shorten();
        Due.is("10: behind shorten", 0, x.wanted(0));
    }

    private static void same() {
        GateBench x = Benches.withInputs(2);
        Benches.put(x, "10");
        Due.is("11: one with itself", true, x.same(1, 1));
        Due.is("11: FALSE with itself", true, x.same(0, 0));
        int both = x.join(0, 1, 2);
        int swapped = x.join(0, 2, 1);
        Due.is("11: swapped", true, x.same(both, swapped));
        int byOthers = x.not(x.join(1, x.not(1), x.not(2)));
        Due.is("11: by other gates", true, x.same(both, byOthers));
        Due.is("11: never true", true, x.same(x.join(0, 1, x.not(1)), 0));
        Due.is("11: always true", true, x.same(x.join(1, 1, x.not(1)), x.not(0)));
        Due.is("11: inputs stay", "10", Benches.inputsOf(x));
        x.want(0);
        int formulas = x.count(0);
        Due.is("11: the list plays no part", false, x.same(1, 2));
        Due.is("11: list stays", 1, x.count(2));
        Due.is("11: it makes no formula", formulas, x.count(0));
    }

    private static void sameIsLeast() {
        GateBench x = Benches.withInputs(3);
        Benches.put(x, "111");
        Due.is("11: two inputs", false, x.same(1, 3));
        Due.is("11: the least for which they differ", "001", Benches.inputsOf(x));
        Benches.put(x, "000");
        Due.is("11: the other way round", false, x.same(3, 1));
        Due.is("11: the same least", "001", Benches.inputsOf(x));
        Due.is("11: opposites", false, x.same(1, x.not(1)));
        Due.is("11: differ at once", "000", Benches.inputsOf(x));
        int both = x.join(0, 1, 2);
        int all = x.join(0, both, 3);
        Due.is("11: differ for one alone", false, x.same(both, all));
        Due.is("11: that one", "110", Benches.inputsOf(x));
    }

    private static void put() {
        GateBench x = Benches.withInputs(2);
        int both = x.join(0, 1, 2);
        Due.is("12: was false", false, x.put(0, true));
        Due.is("12: was true", true, x.put(0, true));
        Due.is("12: the other", false, x.put(1, true));
        Due.is("12: gates follow", true, x.value(both));
        Due.is("12: back", true, x.put(0, false));
        Due.is("12: gates follow back", false, x.value(both));
        Due.is("12: was false again", false, x.put(0, false));
        Due.is("12: inputs stay", "01", Benches.inputsOf(x));
        x.want(1);
        x.can();
        Due.is("12: what can found", true, x.put(0, false));
    }

    private static void value() {
        GateBench x = Benches.withInputs(1);
        int opposite = x.not(1);
        int always = x.join(1, 1, opposite);
        Due.is("13: input", false, x.value(1));
        Due.is("13: opposite", true, x.value(opposite));
        x.put(0, true);
        Due.is("13: a gate over gates first", true, x.value(always));
        Due.is("13: input that was put", true, x.value(1));
        Due.is("13: its opposite", false, x.value(opposite));
        x.want(opposite);
        x.can();
        Due.is("13: what can found", false, x.value(1));
    }

    private static void doubts() {
        GateBench x = Benches.withInputs(3);
        int left = x.join(2, x.join(2, 1, 2), 3);
        int right = x.join(2, 1, x.join(2, 3, 2));
        x.same(left, right);
        x.same(1, 1);
        x.want(left);
        x.want(x.not(right));
        x.can();
        x.shorten();
        x.want(0);
        x.can();
        x.shorten();
        Due.is("14: every refutation is accepted", 0, x.doubts());
    }

    private static void count() {
        GateBench x = Benches.withInputs(2);
        x.not(1);
        x.want(1);
        Due.is("15: formulas", 4, x.count(0));
        Due.is("15: inputs", 2, x.count(1));
        Due.is("15: list", 1, x.count(2));
        Due.is("15: count(3)", -1, x.count(3));
        Due.is("15: count(-1)", -1, x.count(-1));
        Due.is("15: count(greatest)", -1, x.count(Integer.MAX_VALUE));
    }
}
