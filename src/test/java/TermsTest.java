import java.util.function.Function;

/** Each boundary that the document's sections 'What it is' and 'Terms' name, a method for each. */
public final class TermsTest {
    private TermsTest() {
    }

    public static void main(String[] args) {
        atMost512Calls();
        the512thCallSearches();
        atMostTwelveInputs();
        inputsAreNumberedFromZero();
        inputsAreFalseFirst();
        atMost2000Formulas();
        formulasAreNumberedFromZero();
        onesLikeItGetTheNextNumber();
        zeroIsFalse();
        lessByTheFirstThatDiffers();
        lessGoesByInputsNotByFormulas();
        listOfUpToTwenty();
        noFormulaBeforeAnotherOp();
        noFormulaBeforeNoRoom();
        anotherOpBeforeNoRoom();
        noFormulaBeforeAFullList();
        whatThrowsChangesNothing();
        whatThrowsUsesNoNumber();
        Due.end();
    }

    /** "An object is used for at most 512 calls": the last of them still counts. */
    private static void atMost512Calls() {
        GateBench x = new GateBench();
        for (int call = 1; call <= 512; call++) {
            Due.is("call " + call + " of 512, each making a formula,", call, call <= 12 ? x.input() : x.not(call - 1));
        }
    }

    /** Both formulas join the same inputs, the one upwards and the other downwards. */
    private static void the512thCallSearches() {
        GateBench x = Benches.withInputs(12);
        int upwards = 1;
        int downwards = 1;
        for (int i = 1; i <= 249; i++) {
            upwards = x.join(2, upwards, i % 12 + 1);
            downwards = x.join(2, downwards, (250 - i) % 12 + 1);
        }
        Due.is("call 511 of 512, put,", false, x.put(11, true));
        Due.is("call 512 of 512, same,", true, x.same(upwards, downwards));
    }

    /** "INPUTS, at most 12" */
    private static void atMostTwelveInputs() {
        GateBench x = Benches.withInputs(11);
        Due.is("the twelfth input", 12, x.input());
        Due.refused("a thirteenth input", Due.STATE, x, x::input);
        Due.refused("a thirteenth input once more", Due.STATE, x, x::input);
        for (int k = 0; k < 12; k++) {
            Due.is("put of input " + k + " of 12", false, x.put(k, true));
        }
        Due.is("all twelve are true", "111111111111", Benches.inputsOf(x));
        x.want(12);
        Due.is("the twelfth can be true", true, x.can());
        Due.is("it alone", "000000000001", Benches.inputsOf(x));
    }

    /** "numbered from 0 as they are made" */
    private static void inputsAreNumberedFromZero() {
        GateBench x = new GateBench();
        int[] formula = new int[12];
        for (int k = 0; k < 12; k++) {
            x.not(0);
            formula[k] = x.input();
        }
        for (int k = 0; k < 12; k++) {
            x.put(k, true);
            for (int other = 0; other < 12; other++) {
                Due.is("input " + other + " when " + k + " alone is true", other == k, x.value(formula[other]));
            }
            x.put(k, false);
        }
    }

    /** "all false first" */
    private static void inputsAreFalseFirst() {
        GateBench x = new GateBench();
        for (int k = 0; k < 12; k++) {
            int made = x.input();
            Due.is("input " + k + " first", false, x.value(made));
            Due.is("put of input " + k + " first", false, x.put(k, true));
        }
        GateBench y = Benches.withInputs(1);
        y.want(1);
        y.want(y.not(0));
        y.can();
        int behindASearch = y.input();
        Due.is("an input behind can", false, y.value(behindASearch));
        Due.is("those before it stay", true, y.value(1));
    }

    /** Number 2,000 is beyond 512 calls, where answers are free: these are the program's own. */
    private static GateBench fullBench() {
        GateBench x = Benches.withInputs(11);
        for (int next = 12; next < 2000; next++) {
            x.not(1);
        }
        return x;
    }

    /** "FORMULAS, at most 2,000" */
    private static void atMost2000Formulas() {
        GateBench x = Benches.withInputs(11);
        for (int next = 12; next < 1999; next++) {
            x.not(next - 1);
        }
        Due.is("the last formula", 1999, x.choose(1, 2, 3));
        Due.refused("one more", Due.STATE, x, () -> x.not(0));
        Due.is("formulas then", 2000, x.count(0));
        Benches.put(x, "11");
        Due.is("what the last one is", true, x.value(1999));
        Due.is("wanting the last one", 1, x.want(1999));
        Due.is("it can be", true, x.can());
        Due.is("the least for it", "00100000000", Benches.inputsOf(x));
    }

    /** "are numbered from 0, each call that makes one the next number" */
    private static void formulasAreNumberedFromZero() {
        GateBench x = new GateBench();
        Due.is("number of an input", 1, x.input());
        Due.is("number of a not", 2, x.not(1));
        Due.is("number of a join", 3, x.join(0, 1, 2));
        Due.is("number of a choose", 4, x.choose(1, 2, 3));
        Due.is("number of an input behind them", 5, x.input());
        x.want(3);
        x.can();
        x.shorten();
        x.same(1, 5);
        x.put(0, true);
        x.clear();
        Due.is("number behind calls that make none", 6, x.join(1, 1, 5));
        Due.is("how many there are", 7, x.count(0));
    }

    /** "also if there is one like it" */
    private static void onesLikeItGetTheNextNumber() {
        GateBench x = Benches.withInputs(2);
        int next = 3;
        for (int twice = 0; twice < 2; twice++) {
            Due.is("not, twice", next++, x.not(1));
            Due.is("both, twice", next++, x.join(0, 1, 2));
            Due.is("one at least, twice", next++, x.join(1, 1, 2));
            Due.is("just one, twice", next++, x.join(2, 1, 2));
            Due.is("choose, twice", next++, x.choose(1, 2, 0));
        }
        Due.is("both, swapped", next++, x.join(0, 2, 1));
        Due.is("like FALSE", next++, x.join(2, 1, 1));
        Due.is("like an input", next++, x.join(0, 1, 1));
        Due.is("like a gate", next++, x.choose(0, 1, 3));
        Due.is("not of not", next, x.not(3));
    }

    /** "0 is FALSE" */
    private static void zeroIsFalse() {
        GateBench x = new GateBench();
        Due.is("0 without inputs", false, x.value(0));
        x.input();
        x.input();
        Due.is("0 for all inputs", "0000", Benches.table(x, 0));
        Due.is("not 0 for all inputs", "1111", Benches.table(x, x.not(0)));
        x.want(0);
        Due.is("0 wanted", false, x.can());
        Due.is("0 still", false, x.value(0));
    }

    /** "INPUTS are LESS than others if the first that differs is false": of any two rows the less is found. */
    private static void lessByTheFirstThatDiffers() {
        for (int less = 0; less < 8; less++) {
            for (int more = less + 1; more < 8; more++) {
                GateBench x = Benches.withInputs(3);
                int onlyLess = onlyFor(x, less);
                int onlyMore = onlyFor(x, more);
                int either = x.join(1, onlyMore, onlyLess);
                Benches.put(x, row(more));
                x.want(either);
                Due.is("one of two rows", true, x.can());
                Due.is("the less of " + row(less) + " and " + row(more), row(less), Benches.inputsOf(x));
                Benches.put(x, row(more));
                Due.is("FALSE but for two rows", false, x.same(0, either));
                Due.is("the less of the two that differ", row(less), Benches.inputsOf(x));
            }
        }
    }

    private static String row(int inputs) {
        return "" + (inputs >> 2 & 1) + (inputs >> 1 & 1) + (inputs & 1);
    }

    /** A formula that is true for one row of three inputs alone. */
    private static int onlyFor(GateBench x, int inputs) {
        int all = x.not(0);
        for (int k = 0; k < 3; k++) {
            all = x.join(0, all, row(inputs).charAt(k) == '1' ? k + 1 : x.not(k + 1));
        }
        return all;
    }

    private static void lessGoesByInputsNotByFormulas() {
        GateBench x = Benches.withInputs(3);
        int lastFirst = x.join(1, 3, x.join(1, 2, 1));
        x.want(lastFirst);
        x.can();
        Due.is("one at least of three, the last asked first,", "001", Benches.inputsOf(x));
        x.want(x.join(2, x.join(1, 2, 3), x.not(0)));
        x.can();
        Due.is("neither of the last two", "100", Benches.inputsOf(x));
    }

    /** "THE LIST: up to 20 FORMULAS that are wanted together" */
    private static void listOfUpToTwenty() {
        GateBench x = Benches.withInputs(2);
        for (int i = 1; i <= 19; i++) {
            Due.is("want " + i + " of 20", i, x.want(1));
        }
        Due.is("the twentieth", 20, x.want(2));
        Due.refused("a twenty-first", Due.STATE, x, () -> x.want(1));
        Due.is("all twenty can be", true, x.can());
        Due.is("the twentieth counts", "11", Benches.inputsOf(x));
    }

    /** "Of several exceptions that fit, a call throws the one that stands first in its heading" */
    private static void noFormulaBeforeAnotherOp() {
        GateBench x = Benches.withInputs(2);
        Due.refused("join by no op of no a", Due.NO_SUCH, x, () -> x.join(3, 3, 1));
        Due.refused("join by no op of no b", Due.NO_SUCH, x, () -> x.join(-1, 1, -1));
        Due.refused("join by no op of neither", Due.NO_SUCH, x, () -> x.join(3, -1, 3));
    }

    private static void noFormulaBeforeNoRoom() {
        GateBench x = fullBench();
        Due.refused("not of none in a full bench", Due.NO_SUCH, x, () -> x.not(2000));
        Due.refused("join of no a in a full bench", Due.NO_SUCH, x, () -> x.join(0, 2000, 1));
        Due.refused("join of no b in a full bench", Due.NO_SUCH, x, () -> x.join(0, 1, -1));
        Due.refused("join by no op in a full bench, of none,", Due.NO_SUCH, x, () -> x.join(3, 1, 2000));
        Due.refused("choose by none in a full bench", Due.NO_SUCH, x, () -> x.choose(2000, 1, 1));
        Due.refused("choose of no a in a full bench", Due.NO_SUCH, x, () -> x.choose(1, -1, 1));
        Due.refused("choose of no b in a full bench", Due.NO_SUCH, x, () -> x.choose(1, 1, 2000));
    }

    private static void anotherOpBeforeNoRoom() {
        GateBench x = fullBench();
        Due.refused("join by op 3 in a full bench", Due.ARGUMENT, x, () -> x.join(3, 1, 1));
        Due.refused("join by op -1 in a full bench", Due.ARGUMENT, x, () -> x.join(-1, 1, 1));
        Due.refused("join by op 2 in a full bench", Due.STATE, x, () -> x.join(2, 1, 1));
    }

    private static void noFormulaBeforeAFullList() {
        GateBench x = Benches.withInputs(1);
        for (int i = 0; i < 20; i++) {
            x.want(1);
        }
        Due.refused("want of a late one for a full list", Due.NO_SUCH, x, () -> x.want(2));
        Due.refused("want of an early one for a full list", Due.NO_SUCH, x, () -> x.want(-1));
        Due.refused("want of one that is there for a full list", Due.STATE, x, () -> x.want(1));
    }

    /** Inputs, gates, a list and an answer that there are none: all of it could be changed. */
    private static GateBench busyBench() {
        GateBench x = Benches.withInputs(12);
        int opposite = x.not(2);
        x.want(2);
        x.want(x.join(1, 1, 3));
        x.want(opposite);
        x.can();
        Benches.put(x, "101100111010");
        return x;
    }

    /** "one that throws changes nothing" */
    private static void whatThrowsChangesNothing() {
        GateBench x = busyBench();
        int none = x.count(0);
        busyRefuses("input", Due.STATE, GateBench::input);
        busyRefuses("not", Due.NO_SUCH, y -> y.not(none));
        busyRefuses("join of no a", Due.NO_SUCH, y -> y.join(0, none, 1));
        busyRefuses("join of no b", Due.NO_SUCH, y -> y.join(0, 1, none));
        busyRefuses("join by no op", Due.ARGUMENT, y -> y.join(3, 1, 2));
        busyRefuses("choose by none", Due.NO_SUCH, y -> y.choose(none, 1, 2));
        busyRefuses("choose of no a", Due.NO_SUCH, y -> y.choose(1, none, 2));
        busyRefuses("choose of no b", Due.NO_SUCH, y -> y.choose(1, 2, none));
        busyRefuses("want", Due.NO_SUCH, y -> y.want(none));
        busyRefuses("wanted", Due.NO_SUCH, y -> y.wanted(3));
        busyRefuses("same of no a", Due.NO_SUCH, y -> y.same(none, 1));
        busyRefuses("same of no b", Due.NO_SUCH, y -> y.same(1, none));
        busyRefuses("put to true", Due.NO_SUCH, y -> y.put(12, true));
        busyRefuses("put to false", Due.NO_SUCH, y -> y.put(-1, false));
        busyRefuses("value", Due.NO_SUCH, y -> y.value(none));
    }

    /** A bench of its own for each call, so that none comes near 512 calls. */
    private static void busyRefuses(String what, String due, Function<GateBench, Object> call) {
        GateBench x = busyBench();
        Due.refused(what, due, x, () -> call.apply(x));
    }

    private static void whatThrowsUsesNoNumber() {
        GateBench x = busyBench();
        int next = x.count(0);
        Due.answerOf(x::input);
        Due.is("number behind a refused input", next, x.not(1));
        Due.answerOf(() -> x.not(-1));
        Due.is("number behind a refused not", next + 1, x.not(1));
        Due.answerOf(() -> x.join(7, 1, 2));
        Due.is("number behind a refused join", next + 2, x.not(1));
        Due.answerOf(() -> x.choose(1, 2, -1));
        Due.is("number behind a refused choose", next + 3, x.not(1));
        Due.answerOf(() -> x.want(-1));
        Due.is("place behind a refused want", 4, x.want(1));
        Due.is("what stands there", 1, x.wanted(3));
    }
}
