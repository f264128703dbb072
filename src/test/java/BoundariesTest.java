/**
 * Each boundary that promises 1 to 15 name (too small, too large, empty, full, a wrap-around, a refused call), a
 * method for each sentence.
 */
public final class BoundariesTest {
    /** Numbers of no formula, input or place of a bench with fewer than 100 of each. */
    private static final int[] NONE_SUCH = {
        -1, -2, 100, Integer.MIN_VALUE, Integer.MAX_VALUE,
        // the least and these are as 0 or 1 if they are doubled or cut to fewer bits
        Integer.MIN_VALUE + 1, 1 << 16, (1 << 16) + 1, 1 << 8, (1 << 8) + 1,
    };

    private BoundariesTest() {
    }

    public static void main(String[] args) {
        newObjectHasFormulaZero();
        newObjectHasNoInputs();
        newObjectHasAnEmptyList();
        inputWhenThereAreTwelve();
        inputWhenThereAre2000Formulas();
        allThatMakeOneWhenThereAre2000();
        allThatMakeNoneWhenThereAre2000();
        notOfNone();
        joinOfNone();
        chooseOfNone();
        joinByAnotherOp();
        joinLooksAtTheOpBehindAAndB();
        joinOfOneAndOfFalse();
        chooseByFalseAndByTrue();
        wantOfNone();
        wantAnswersHowManyThereAre();
        wantWhenTwentyAreThere();
        wantHasRoomAgain();
        clearOfAnEmptyList();
        clearOfAFullList();
        clearLeavesTheRest();
        canOfAnEmptyList();
        canOfAFullList();
        canWithoutInputs();
        canIsLeastAtBothEnds();
        canFindsNone();
        shortenOfAnEmptyList();
        shortenWhenSomeInputsDo();
        shortenToTheLastOne();
        shortenOfAFullList();
        shortenOfAFullListThatIsNeeded();
        shortenGoesFromTheFirstOn();
        shortenLeavesInputs();
        wantedBeyondTheList();
        wantedBehindClearAndShorten();
        sameOfNone();
        sameOfAFormulaAndItself();
        sameWhateverTheListIs();
        sameWithoutInputs();
        sameIsLeastAtBothEnds();
        sameStaysIfTheyAre();
        putOfNone();
        putTakesInputsNotFormulas();
        putAnswersWhatItWas();
        valueOfNone();
        valueAtTheEndsOfTheFormulas();
        doubtsSinceTheBeginning();
        countOfAnythingElse();
        countWhenEmptyAndFull();
        Due.end();
    }

    private static GateBench withFullList(int inputs, int formula) {
        GateBench x = Benches.withInputs(inputs);
        for (int i = 0; i < 20; i++) {
            x.want(formula);
        }
        return x;
    }

    /** Number 2,000 is beyond 512 calls, where answers are free: these are the program's own. */
    private static GateBench withFormulas(int inputs, int formulas) {
        GateBench x = Benches.withInputs(inputs);
        for (int next = inputs + 1; next < formulas; next++) {
            x.not(next - 1);
        }
        return x;
    }

    /** "FORMULA 0" */
    private static void newObjectHasFormulaZero() {
        GateBench x = new GateBench();
        Due.is("1: formulas of a new object", 1, x.count(0));
        Due.is("1: formula 0 of a new object", false, x.value(0));
        Due.refused("1: formula 1 of a new object", Due.NO_SUCH, x, () -> x.value(1));
        Due.is("1: the first formula that is made", 1, x.not(0));
    }

    /** "no INPUTS" */
    private static void newObjectHasNoInputs() {
        GateBench x = new GateBench();
        Due.is("1: inputs of a new object", 0, x.count(1));
        Due.refused("1: input 0 of a new object", Due.NO_SUCH, x, () -> x.put(0, true));
        GateBench other = Benches.withInputs(3);
        Due.is("1: inputs of another object", 3, other.count(1));
        Due.is("1: inputs of the first one still", 0, x.count(1));
    }

    /** "an empty LIST" */
    private static void newObjectHasAnEmptyList() {
        GateBench x = new GateBench();
        Due.is("1: list of a new object", 0, x.count(2));
        Due.refused("1: place 0 of a new object's list", Due.NO_SUCH, x, () -> x.wanted(0));
        Due.is("1: clear of a new object", 0, x.clear());
        Due.is("1: the first want", 1, x.want(0));
    }

    /** "IllegalStateException: there are 12 INPUTS" */
    private static void inputWhenThereAreTwelve() {
        GateBench x = Benches.withInputs(11);
        Due.is("2: the twelfth", 12, x.input());
        Due.refused("2: the thirteenth", Due.STATE, x, x::input);
        Due.is("2: other formulas are made still", 13, x.not(12));
        Due.call("2: the thirteenth behind a gate", Due.STATE, x::input);
    }

    /** "or 2,000 FORMULAS" */
    private static void inputWhenThereAre2000Formulas() {
        GateBench x = withFormulas(0, 1999);
        Due.is("2: an input as the last formula", 1999, x.input());
        Due.refused("2: one more", Due.STATE, x, x::input);
        Due.is("2: the last is an input", false, x.put(0, true));
        Due.is("2: that was put", true, x.value(1999));
    }

    /** "(so for all that make one)" */
    private static void allThatMakeOneWhenThereAre2000() {
        GateBench x = withFormulas(1, 2000);
        Due.refused("2: input of 2,000", Due.STATE, x, x::input);
        Due.refused("2: not of 2,000", Due.STATE, x, () -> x.not(1999));
        Due.refused("2: both of 2,000", Due.STATE, x, () -> x.join(0, 1999, 1));
        Due.refused("2: one at least of 2,000", Due.STATE, x, () -> x.join(1, 1, 1999));
        Due.refused("2: just one of 2,000", Due.STATE, x, () -> x.join(2, 1, 1));
        Due.refused("2: choose of 2,000", Due.STATE, x, () -> x.choose(1999, 1, 0));
    }

    private static void allThatMakeNoneWhenThereAre2000() {
        GateBench x = withFormulas(1, 2000);
        Due.is("2: want of 2,000", 1, x.want(1999));
        Due.is("2: wanted of 2,000", 1999, x.wanted(0));
        Due.is("2: put of 2,000", false, x.put(0, true));
        Due.is("2: value of 2,000", true, x.value(1999));
        Due.is("2: same of 2,000", true, x.same(1999, 1));
        Due.is("2: can of 2,000", true, x.can());
        Due.is("2: shorten of 2,000", -1, x.shorten());
        Due.is("2: clear of 2,000", 1, x.clear());
        Due.is("2: doubts of 2,000", 0, x.doubts());
    }

    /** "NoSuchElementException: there is none (so for all)" */
    private static void notOfNone() {
        GateBench x = Benches.withInputs(2);
        for (int none : NONE_SUCH) {
            Due.call("3: not(" + none + ")", Due.NO_SUCH, () -> x.not(none));
        }
        Due.refused("3: not of the next number", Due.NO_SUCH, x, () -> x.not(3));
        Due.is("3: not of the last", 3, x.not(2));
        Due.is("3: not of what was the next number", 4, x.not(3));
        Due.is("3: not of the first", 5, x.not(0));
    }

    private static void joinOfNone() {
        GateBench x = Benches.withInputs(2);
        for (int none : NONE_SUCH) {
            for (int op = 0; op < 3; op++) {
                int kind = op;
                Due.call("3: join(" + op + ", " + none + ", 1)", Due.NO_SUCH, () -> x.join(kind, none, 1));
                Due.call("3: join(" + op + ", 1, " + none + ")", Due.NO_SUCH, () -> x.join(kind, 1, none));
            }
        }
        Due.refused("3: join of the next number and another", Due.NO_SUCH, x, () -> x.join(0, 3, 1));
        Due.refused("3: join of another and the next number", Due.NO_SUCH, x, () -> x.join(0, 1, 3));
        Due.is("3: join of the last and the first", 3, x.join(0, 2, 0));
        Due.is("3: join of the first and the last", 4, x.join(1, 0, 3));
    }

    private static void chooseOfNone() {
        GateBench x = Benches.withInputs(2);
        for (int none : NONE_SUCH) {
            Due.call("3: choose(" + none + ", 1, 2)", Due.NO_SUCH, () -> x.choose(none, 1, 2));
            Due.call("3: choose(1, " + none + ", 2)", Due.NO_SUCH, () -> x.choose(1, none, 2));
            Due.call("3: choose(1, 2, " + none + ")", Due.NO_SUCH, () -> x.choose(1, 2, none));
        }
        Due.refused("3: choose by the next number", Due.NO_SUCH, x, () -> x.choose(3, 1, 2));
        Due.refused("3: choose of the next number if true", Due.NO_SUCH, x, () -> x.choose(1, 3, 2));
        Due.refused("3: choose of the next number if false", Due.NO_SUCH, x, () -> x.choose(1, 2, 3));
        Due.refused("3: choose by FALSE of none", Due.NO_SUCH, x, () -> x.choose(0, 3, 2));
        Due.is("3: choose of the last and the first", 3, x.choose(2, 0, 2));
        Due.is("3: choose by what was the next number", 4, x.choose(3, 3, 3));
    }

    /** "IllegalArgumentException: another op" */
    private static void joinByAnotherOp() {
        GateBench x = Benches.withInputs(2);
        for (int op : NONE_SUCH) {
            Due.call("4: op " + op, Due.ARGUMENT, () -> x.join(op, 1, 2));
        }
        for (int op : new int[] {3, 4, 5, -3, Integer.MIN_VALUE + 2, (1 << 16) + 2, (1 << 8) + 2}) {
            Due.call("4: op " + op, Due.ARGUMENT, () -> x.join(op, 1, 2));
        }
        Due.refused("4: the op above the last", Due.ARGUMENT, x, () -> x.join(3, 0, 0));
        Due.refused("4: the op below the first", Due.ARGUMENT, x, () -> x.join(-1, 0, 0));
        Due.is("4: the last op", 3, x.join(2, 1, 2));
        Due.is("4: the first op", 4, x.join(0, 1, 2));
    }

    /** "(looked at behind a and b)" */
    private static void joinLooksAtTheOpBehindAAndB() {
        GateBench x = Benches.withInputs(2);
        Due.refused("4: no op, no a", Due.NO_SUCH, x, () -> x.join(3, 3, 1));
        Due.refused("4: no op, no b", Due.NO_SUCH, x, () -> x.join(3, 1, 3));
        Due.refused("4: op below, a below", Due.NO_SUCH, x, () -> x.join(-1, -1, 1));
        Due.refused("4: op below, b below", Due.NO_SUCH, x, () -> x.join(-1, 1, -1));
        Due.refused("4: no op, a and b", Due.ARGUMENT, x, () -> x.join(3, 1, 2));
    }

    private static void joinOfOneAndOfFalse() {
        GateBench x = Benches.withInputs(1);
        int always = x.not(0);
        Due.is("4: both of one", "01", Benches.table(x, x.join(0, 1, 1)));
        Due.is("4: one at least of one", "01", Benches.table(x, x.join(1, 1, 1)));
        Due.is("4: just one of one", "00", Benches.table(x, x.join(2, 1, 1)));
        Due.is("4: both, of FALSE twice", "00", Benches.table(x, x.join(0, 0, 0)));
        Due.is("4: one at least, of FALSE twice", "00", Benches.table(x, x.join(1, 0, 0)));
        Due.is("4: just one, of FALSE twice", "00", Benches.table(x, x.join(2, 0, 0)));
        Due.is("4: both, of what always is", "11", Benches.table(x, x.join(0, always, always)));
        Due.is("4: just one, of what always is", "00", Benches.table(x, x.join(2, always, always)));
        Due.is("4: just one, of it and an input", "10", Benches.table(x, x.join(2, always, 1)));
    }

    /** "a if c is true, else b" */
    private static void chooseByFalseAndByTrue() {
        GateBench x = Benches.withInputs(2);
        int always = x.not(0);
        Due.is("5: by FALSE", "0101", Benches.table(x, x.choose(0, 1, 2)));
        Due.is("5: by what always is", "0011", Benches.table(x, x.choose(always, 1, 2)));
        Due.is("5: by one of the two, a", "0111", Benches.table(x, x.choose(1, 1, 2)));
        Due.is("5: by one of the two, b", "0001", Benches.table(x, x.choose(1, 2, 1)));
        Due.is("5: of one twice", "0101", Benches.table(x, x.choose(1, 2, 2)));
        Due.is("5: by itself of itself", "0011", Benches.table(x, x.choose(1, 1, 1)));
        Due.is("5: of FALSE and what always is", "1100", Benches.table(x, x.choose(1, 0, always)));
        Due.is("5: of FALSE alone", "0000", Benches.table(x, x.choose(0, 0, 0)));
    }

    private static void wantOfNone() {
        GateBench x = Benches.withInputs(2);
        for (int none : NONE_SUCH) {
            Due.call("6: want(" + none + ")", Due.NO_SUCH, () -> x.want(none));
        }
        Due.refused("6: want of the next number", Due.NO_SUCH, x, () -> x.want(3));
        Due.is("6: want of the last", 1, x.want(2));
        Due.is("6: want of the first", 2, x.want(0));
        Due.is("6: the list", "2 0 ", Benches.listOf(x));
    }

    /** "A FORMULA comes to the end of THE LIST: how many it has" */
    private static void wantAnswersHowManyThereAre() {
        GateBench x = Benches.withInputs(2);
        Due.is("6: want for an empty list", 1, x.want(2));
        Due.is("6: want of the same once more", 2, x.want(2));
        Due.is("6: want of another", 3, x.want(1));
        Due.is("6: at the end", "2 2 1 ", Benches.listOf(x));
    }

    /** "IllegalStateException: 20 are there" */
    private static void wantWhenTwentyAreThere() {
        GateBench x = Benches.withInputs(1);
        for (int i = 1; i <= 20; i++) {
            Due.is("6: want " + i, i, x.want(i % 2));
        }
        Due.refused("6: want 21", Due.STATE, x, () -> x.want(1));
        Due.refused("6: want 21 of one that is wanted already", Due.STATE, x, () -> x.want(0));
        Due.refused("6: want 21 of none", Due.NO_SUCH, x, () -> x.want(2));
        Due.is("6: the last place", 0, x.wanted(19));
    }

    private static void wantHasRoomAgain() {
        GateBench x = withFullList(1, 0);
        Due.is("6: shorten of a full list", 1, x.shorten());
        Due.is("6: want behind shorten", 2, x.want(1));
        for (int i = 3; i <= 20; i++) {
            Due.is("6: want " + i + " behind shorten", i, x.want(1));
        }
        Due.call("6: want 21 behind shorten", Due.STATE, () -> x.want(1));
        Due.is("6: clear", 20, x.clear());
        Due.is("6: want behind clear", 1, x.want(1));
    }

    /** "THE LIST is empty from now on: how many it had" */
    private static void clearOfAnEmptyList() {
        GateBench x = Benches.withInputs(1);
        Due.is("7: clear of an empty list", 0, x.clear());
        Due.is("7: it is empty still", 0, x.count(2));
        x.want(1);
        Due.is("7: clear of one", 1, x.clear());
        Due.is("7: clear behind clear", 0, x.clear());
    }

    private static void clearOfAFullList() {
        GateBench x = withFullList(1, 0);
        Due.is("7: clear of a full list", 20, x.clear());
        Due.is("7: it is empty", 0, x.count(2));
        Due.call("7: its first place", Due.NO_SUCH, () -> x.wanted(0));
        Due.is("7: nothing is wanted", true, x.can());
        for (int i = 1; i <= 20; i++) {
            Due.is("7: want " + i + " behind clear", i, x.want(1));
        }
        Due.is("7: what was wanted before counts no more", true, x.can());
    }

    private static void clearLeavesTheRest() {
        GateBench x = Benches.withInputs(2);
        Benches.put(x, "01");
        x.want(0);
        x.clear();
        Due.is("7: inputs stay", "01", Benches.inputsOf(x));
        Due.is("7: formulas stay", 3, x.count(0));
    }

    /** "(of an empty LIST all false" */
    private static void canOfAnEmptyList() {
        GateBench x = Benches.withInputs(12);
        Benches.put(x, "111111111111");
        Due.is("8: can of an empty list", true, x.can());
        Due.is("8: all false", "000000000000", Benches.inputsOf(x));
        Benches.put(x, "1");
        x.want(0);
        x.clear();
        Due.is("8: can of a list that is empty again", true, x.can());
        Due.is("8: all false again", "000000000000", Benches.inputsOf(x));
    }

    private static void canOfAFullList() {
        GateBench x = Benches.withInputs(12);
        int opposite = x.not(12);
        for (int i = 1; i <= 19; i++) {
            x.want(Math.min(i, 11));
        }
        x.want(opposite);
        Due.is("8: can of a full list", true, x.can());
        Due.is("8: its least", "111111111110", Benches.inputsOf(x));
        GateBench y = Benches.withInputs(1);
        int falseOne = y.not(1);
        for (int i = 1; i <= 19; i++) {
            y.want(1);
        }
        y.want(falseOne);
        Due.is("8: the twentieth can't be true with the others", false, y.can());
    }

    private static void canWithoutInputs() {
        GateBench x = new GateBench();
        Due.is("8: an empty list without inputs", true, x.can());
        x.want(x.not(0));
        Due.is("8: what always is, without inputs", true, x.can());
        x.want(0);
        Due.is("8: FALSE without inputs", false, x.can());
    }

    /** "INPUTS are the least such then": from all false to all true, and those that nothing looks at false. */
    private static void canIsLeastAtBothEnds() {
        GateBench x = Benches.withInputs(12);
        int all = 1;
        for (int k = 2; k <= 12; k++) {
            all = x.join(0, all, k);
        }
        x.want(x.not(all));
        Benches.put(x, "111111111110");
        Due.is("8: not all", true, x.can());
        Due.is("8: none has to be true", "000000000000", Benches.inputsOf(x));
        x.clear();
        x.want(all);
        Due.is("8: all", true, x.can());
        Due.is("8: each has to be true", "111111111111", Benches.inputsOf(x));
        x.clear();
        x.want(6);
        Due.is("8: one", true, x.can());
        Due.is("8: the others are false", "000001000000", Benches.inputsOf(x));
    }

    /** "else they stay)" */
    private static void canFindsNone() {
        GateBench x = Benches.withInputs(12);
        Benches.put(x, "101101110001");
        int opposite = x.not(5);
        x.want(5);
        x.want(opposite);
        String before = Benches.stateOf(x);
        Due.is("8: none", false, x.can());
        Due.is("8: all stays", before, Benches.stateOf(x));
        GateBench y = Benches.withInputs(2);
        Benches.put(y, "11");
        y.want(0);
        Due.is("8: none for FALSE", false, y.can());
        Due.is("8: inputs stay for FALSE", "11", Benches.inputsOf(y));
    }

    /** "-1 if some INPUTS do (so of an empty LIST" */
    private static void shortenOfAnEmptyList() {
        GateBench x = new GateBench();
        Due.is("9: an empty list without inputs", -1, x.shorten());
        x.input();
        x.put(0, true);
        Due.is("9: an empty list", -1, x.shorten());
        Due.is("9: inputs stay for an empty list", "1", Benches.inputsOf(x));
        x.want(0);
        x.clear();
        Due.is("9: a list that is empty again", -1, x.shorten());
        Due.is("9: it is empty still", 0, x.count(2));
    }

    /** "THE LIST stays)" */
    private static void shortenWhenSomeInputsDo() {
        GateBench x = Benches.withInputs(2);
        x.want(1);
        x.want(2);
        x.want(1);
        Due.is("9: some inputs do", -1, x.shorten());
        Due.is("9: the list stays", "1 2 1 ", Benches.listOf(x));
        GateBench y = withFullList(1, 1);
        Due.is("9: some inputs do for a full list", -1, y.shorten());
        Due.is("9: the full list stays", 20, y.count(2));
    }

    /** "those of it ... that are not needed for this go": one is always left. */
    private static void shortenToTheLastOne() {
        GateBench x = Benches.withInputs(1);
        x.want(0);
        Due.is("9: FALSE alone", 1, x.shorten());
        Due.is("9: it is needed", "0 ", Benches.listOf(x));
        Due.is("9: once more", 1, x.shorten());
        GateBench y = withFullList(1, 0);
        Due.is("9: FALSE twenty times", 1, y.shorten());
        Due.is("9: one of them is needed", "0 ", Benches.listOf(y));
        GateBench first = Benches.withInputs(1);
        first.want(0);
        first.want(1);
        Due.is("9: FALSE before another", 1, first.shorten());
        Due.is("9: FALSE alone is left", "0 ", Benches.listOf(first));
    }

    private static void shortenOfAFullList() {
        GateBench x = Benches.withInputs(12);
        int notAll = 1;
        for (int k = 2; k <= 12; k++) {
            notAll = x.join(0, notAll, k);
        }
        notAll = x.not(notAll);
        for (int i = 0; i < 7; i++) {
            x.want(notAll);
        }
        for (int k = 1; k <= 12; k++) {
            x.want(k);
        }
        x.want(notAll);
        Due.is("9: thirteen of twenty are needed", 13, x.shorten());
        Due.is("9: the last ones", "1 2 3 4 5 6 7 8 9 10 11 12 " + notAll + " ", Benches.listOf(x));
    }

    /**
     * Each of the twenty forbids rows of inputs that no other forbids: twelve forbid two rows, by the first four
     * inputs, and eight forbid one.
     */
    private static void shortenOfAFullListThatIsNeeded() {
        GateBench x = Benches.withInputs(5);
        int[] opposite = new int[6];
        for (int k = 1; k <= 5; k++) {
            opposite[k] = x.not(k);
        }
        for (int row = 0; row < 16; row++) {
            int unlike = 0;
            for (int k = 1; k <= 4; k++) {
                unlike = x.join(1, unlike, (row >> (4 - k) & 1) == 1 ? opposite[k] : k);
            }
            if (row < 12) {
                x.want(unlike);
            } else {
                x.want(x.join(1, unlike, 5));
                x.want(x.join(1, unlike, opposite[5]));
            }
        }
        String all = Benches.listOf(x);
        Due.is("9: twenty are needed", 20, x.shorten());
        Due.is("9: all twenty stay", all, Benches.listOf(x));
    }

    /** "from the first on ... with all behind it and of those before it only the ones that stayed" */
    private static void shortenGoesFromTheFirstOn() {
        GateBench x = Benches.withInputs(2);
        int notFirst = x.not(1);
        int notSecond = x.not(2);
        x.want(notFirst);
        x.want(1);
        x.want(2);
        x.want(notSecond);
        Due.is("9: two ways to have none", 2, x.shorten());
        Due.is("9: the first way goes", "2 " + notSecond + " ", Benches.listOf(x));
        x.clear();
        x.want(1);
        x.want(notFirst);
        x.want(1);
        Due.is("9: the same in front and behind", 2, x.shorten());
        Due.is("9: the one in front goes", notFirst + " 1 ", Benches.listOf(x));
        x.clear();
        x.want(1);
        x.want(2);
        x.want(notFirst);
        x.want(2);
        Due.is("9: one goes from the middle, one from the end", 2, x.shorten());
        Due.is("9: those that stayed", "1 " + notFirst + " ", Benches.listOf(x));
    }

    /** "INPUTS stay either way" */
    private static void shortenLeavesInputs() {
        GateBench x = Benches.withInputs(3);
        Benches.put(x, "101");
        int opposite = x.not(2);
        x.want(2);
        Due.is("9: some do", -1, x.shorten());
        Due.is("9: inputs stay if some do", "101", Benches.inputsOf(x));
        x.want(3);
        x.want(opposite);
        Due.is("9: none do", 2, x.shorten());
        Due.is("9: inputs stay if none do", "101", Benches.inputsOf(x));
    }

    /** "NoSuchElementException: there is none" */
    private static void wantedBeyondTheList() {
        GateBench x = Benches.withInputs(2);
        Due.refused("10: the first of an empty list", Due.NO_SUCH, x, () -> x.wanted(0));
        x.want(2);
        x.want(1);
        for (int none : NONE_SUCH) {
            Due.call("10: wanted(" + none + ")", Due.NO_SUCH, () -> x.wanted(none));
        }
        Due.refused("10: behind the end", Due.NO_SUCH, x, () -> x.wanted(2));
        Due.is("10: the first", 2, x.wanted(0));
        Due.is("10: the last", 1, x.wanted(1));
        GateBench full = withFullList(1, 1);
        Due.is("10: the last of a full list", 1, full.wanted(19));
        Due.refused("10: behind a full list", Due.NO_SUCH, full, () -> full.wanted(20));
    }

    private static void wantedBehindClearAndShorten() {
        GateBench x = withFullList(1, 0);
        x.shorten();
        Due.is("10: what is left", 0, x.wanted(0));
        Due.call("10: what went", Due.NO_SUCH, () -> x.wanted(1));
        Due.call("10: what went from the end", Due.NO_SUCH, () -> x.wanted(19));
        x.clear();
        Due.call("10: what was cleared", Due.NO_SUCH, () -> x.wanted(0));
    }

    private static void sameOfNone() {
        GateBench x = Benches.withInputs(2);
        for (int none : NONE_SUCH) {
            Due.call("11: same(" + none + ", 1)", Due.NO_SUCH, () -> x.same(none, 1));
            Due.call("11: same(1, " + none + ")", Due.NO_SUCH, () -> x.same(1, none));
            Due.call("11: same(" + none + ", " + none + ")", Due.NO_SUCH, () -> x.same(none, none));
        }
        Benches.put(x, "11");
        Due.refused("11: the next number and another", Due.NO_SUCH, x, () -> x.same(3, 1));
        Due.refused("11: another and the next number", Due.NO_SUCH, x, () -> x.same(1, 3));
        Due.is("11: the first and the last", false, x.same(0, 2));
    }

    private static void sameOfAFormulaAndItself() {
        GateBench x = Benches.withInputs(2);
        Benches.put(x, "11");
        Due.is("11: FALSE and itself", true, x.same(0, 0));
        Due.is("11: an input and itself", true, x.same(2, 2));
        int gate = x.join(2, 1, 2);
        Due.is("11: a gate and itself", true, x.same(gate, gate));
        Due.is("11: inputs stay", "11", Benches.inputsOf(x));
    }

    private static void sameWhateverTheListIs() {
        GateBench x = Benches.withInputs(2);
        x.want(0);
        Due.is("11: a list that can't be plays no part", false, x.same(1, 2));
        Due.is("11: the list stays", "0 ", Benches.listOf(x));
        Due.is("11: inputs behind it", "01", Benches.inputsOf(x));
    }

    private static void sameWithoutInputs() {
        GateBench x = new GateBench();
        int always = x.not(0);
        Due.is("11: FALSE and its opposite without inputs", false, x.same(0, always));
        Due.is("11: FALSE and itself without inputs", true, x.same(0, 0));
        Due.is("11: its opposite twice without inputs", true, x.same(always, x.not(0)));
    }

    /** "if not INPUTS are the least for which they are not" */
    private static void sameIsLeastAtBothEnds() {
        GateBench x = Benches.withInputs(12);
        int all = 1;
        for (int k = 2; k <= 12; k++) {
            all = x.join(0, all, k);
        }
        Due.is("11: FALSE and all", false, x.same(0, all));
        Due.is("11: they differ for the greatest alone", "111111111111", Benches.inputsOf(x));
        int notAll = x.not(all);
        Due.is("11: all and not all", false, x.same(all, notAll));
        Due.is("11: they differ for the least", "000000000000", Benches.inputsOf(x));
        Benches.put(x, "111111111111");
        Due.is("11: the first and the last", false, x.same(1, 12));
        Due.is("11: they differ by the last", "000000000001", Benches.inputsOf(x));
    }

    /** "(else they stay)" */
    private static void sameStaysIfTheyAre() {
        GateBench x = Benches.withInputs(3);
        Benches.put(x, "011");
        int left = x.join(0, x.join(0, 1, 2), 3);
        int right = x.join(0, 1, x.join(0, 2, 3));
        x.want(0);
        String before = Benches.stateOf(x);
        Due.is("11: the same", true, x.same(left, right));
        Due.is("11: all stays", before, Benches.stateOf(x));
    }

    /** "NoSuchElementException: there is none" */
    private static void putOfNone() {
        GateBench x = Benches.withInputs(2);
        for (int none : NONE_SUCH) {
            Due.call("12: put(" + none + ", true)", Due.NO_SUCH, () -> x.put(none, true));
        }
        Due.refused("12: put of the next number", Due.NO_SUCH, x, () -> x.put(2, true));
        Due.is("12: put of the last", false, x.put(1, true));
        GateBench full = Benches.withInputs(12);
        Due.is("12: put of the twelfth", false, full.put(11, true));
        Due.refused("12: put of a thirteenth", Due.NO_SUCH, full, () -> full.put(12, true));
    }

    private static void putTakesInputsNotFormulas() {
        GateBench x = new GateBench();
        x.not(0);
        x.not(1);
        x.input();
        Due.refused("12: put of an input's formula", Due.NO_SUCH, x, () -> x.put(3, true));
        Due.refused("12: put of a gate", Due.NO_SUCH, x, () -> x.put(1, false));
        Due.is("12: put of the input", false, x.put(0, true));
        Due.is("12: FALSE is none of them", false, x.value(0));
    }

    /** "what it was" */
    private static void putAnswersWhatItWas() {
        GateBench x = Benches.withInputs(1);
        Due.is("12: false to false", false, x.put(0, false));
        Due.is("12: false to true", false, x.put(0, true));
        Due.is("12: true to true", true, x.put(0, true));
        Due.is("12: true to false", true, x.put(0, false));
        Due.is("12: false again", false, x.put(0, false));
        x.want(1);
        x.can();
        Due.is("12: what can made of it", true, x.put(0, false));
        x.same(0, 1);
        Due.is("12: what same made of it", true, x.put(0, true));
    }

    private static void valueOfNone() {
        GateBench x = Benches.withInputs(2);
        for (int none : NONE_SUCH) {
            Due.call("13: value(" + none + ")", Due.NO_SUCH, () -> x.value(none));
        }
        Due.refused("13: value of the next number", Due.NO_SUCH, x, () -> x.value(3));
    }

    private static void valueAtTheEndsOfTheFormulas() {
        GateBench x = Benches.withInputs(1);
        Due.is("13: the first", false, x.value(0));
        Due.is("13: the last", false, x.value(1));
        int last = x.not(1);
        Due.is("13: the last, a gate", true, x.value(last));
        x.put(0, true);
        Due.is("13: the last behind put", false, x.value(last));
        Due.is("13: the first behind put", false, x.value(0));
    }

    /** "Of all answers since the beginning that there are no such INPUTS: how many have no refutation" */
    private static void doubtsSinceTheBeginning() {
        GateBench x = new GateBench();
        Due.is("14: a new object", 0, x.doubts());
        x.want(0);
        x.can();
        x.shorten();
        x.same(0, 0);
        Due.is("14: refutations without inputs", 0, x.doubts());
        GateBench y = withFullList(12, 0);
        y.shorten();
        y.want(12);
        y.can();
        y.same(12, 12);
        Due.is("14: refutations of a full list", 0, y.doubts());
        y.clear();
        y.can();
        y.same(0, 12);
        Due.is("14: found inputs are no doubts", 0, y.doubts());
    }

    /** "Else -1" */
    private static void countOfAnythingElse() {
        GateBench x = withFullList(12, 1);
        for (int what : NONE_SUCH) {
            Due.is("15: count(" + what + ")", -1, x.count(what));
        }
        Due.is("15: count(3)", -1, x.count(3));
        Due.is("15: count(4)", -1, x.count(4));
        Due.is("15: count that is 2 if it is cut", -1, x.count((1 << 16) + 2));
        Due.is("15: count that is 2 if it wraps", -1, x.count(Integer.MIN_VALUE + 2));
    }

    private static void countWhenEmptyAndFull() {
        GateBench x = new GateBench();
        Due.is("15: formulas when there is FALSE alone", 1, x.count(0));
        Due.is("15: inputs when there are none", 0, x.count(1));
        Due.is("15: an empty list", 0, x.count(2));
        GateBench y = withFullList(12, 1);
        Due.is("15: formulas of twelve inputs", 13, y.count(0));
        Due.is("15: inputs when there are twelve", 12, y.count(1));
        Due.is("15: a full list", 20, y.count(2));
        Due.is("15: formulas when there are 2,000", 2000, withFormulas(1, 2000).count(0));
    }
}
