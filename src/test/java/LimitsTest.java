/** The longest searches: those that come nearest to the rows that the program makes. */
public final class LimitsTest {
    private LimitsTest() {
    }

    public static void main(String[] args) {
        fullOfFormulas();
        longestSearch();
        multipliers();
        pigeons();
        fullListOfHardOnes();
        Due.end();
    }

    private static int[] inputsOf(GateBench x, int inputs) {
        int[] made = new int[inputs];
        for (int k = 0; k < inputs; k++) {
            made[k] = x.input();
        }
        return made;
    }

    /** Beyond the calls that are promised: a search through as many gates as there can be. */
    private static void fullOfFormulas() {
        GateBench x = new GateBench();
        int[] in = inputsOf(x, 11);
        int last = in[10];
        int before = in[9];
        for (int next = 12; next < 2000; next++) {
            int made = x.choose(last, in[next % 11], before);
            before = last;
            last = made;
        }
        Due.is("the last formula", 1999, last);
        Due.is("it is wanted", 1, x.want(last));
        Due.is("it can be", true, x.can());
        Due.is("it is", true, x.value(last));
        Due.is("the same as itself", true, x.same(last, last));
        Due.is("no doubts", 0, x.doubts());
    }

    /** Whether an odd number of 12 inputs is true shows only when all are known: the most lessons there are. */
    private static void longestSearch() {
        GateBench x = new GateBench();
        int[] in = inputsOf(x, 12);
        int upwards = in[0];
        int downwards = in[11];
        for (int k = 1; k < 12; k++) {
            upwards = x.join(2, upwards, in[k]);
            downwards = x.join(2, downwards, in[11 - k]);
        }
        Due.is("odd is odd", true, x.same(upwards, downwards));
        x.want(upwards);
        x.want(x.not(downwards));
        Due.is("odd and even", false, x.can());
        Due.is("both are needed", 2, x.shorten());
        Due.is("odd is not even", false, x.same(upwards, x.not(downwards)));
        Due.is("no doubts of odd and even", 0, x.doubts());
    }

    private static void multipliers() {
        GateBench x = new GateBench();
        int[] a = inputsOf(x, 5);
        int[] b = inputsOf(x, 5);
        int[] product = product(x, a, b, false);
        int[] swapped = product(x, b, a, true);
        for (int i = 0; i < product.length; i++) {
            Due.is("bit " + i + " of a product", true, x.same(product[i], swapped[i]));
        }
        Due.is("other bits", false, x.same(product[3], swapped[4]));
        Due.is("no doubts of products", 0, x.doubts());
    }

    private static int[] product(GateBench x, int[] a, int[] b, boolean byChoice) {
        int[] sum = new int[a.length + b.length];
        for (int i = 0; i < b.length; i++) {
            int carry = 0;
            for (int j = 0; j < a.length; j++) {
                int bit = x.join(0, a[j], b[i]);
                int differ = x.join(2, sum[i + j], bit);
                int next = byChoice ? x.choose(differ, carry, bit)
                        : x.join(1, x.join(0, sum[i + j], bit), x.join(0, differ, carry));
                sum[i + j] = x.join(2, differ, carry);
                carry = next;
            }
            sum[i + a.length] = carry;
        }
        return sum;
    }

    /** Four pigeons for three holes: input 3p + h is pigeon p in hole h. */
    private static void pigeons() {
        GateBench x = new GateBench();
        int[] in = inputsOf(x, 12);
        for (int pigeon = 0; pigeon < 4; pigeon++) {
            x.want(x.join(1, x.join(1, in[3 * pigeon], in[3 * pigeon + 1]), in[3 * pigeon + 2]));
        }
        for (int hole = 0; hole < 3; hole++) {
            int clash = 0;
            for (int p = 0; p < 4; p++) {
                for (int q = 0; q < p; q++) {
                    clash = x.join(1, clash, x.join(0, in[3 * p + hole], in[3 * q + hole]));
                }
            }
            x.want(x.not(clash));
        }
        Due.is("four pigeons", false, x.can());
        Due.is("all of it is needed", 7, x.shorten());
        x.put(5, true);
        Due.is("inputs stay", true, x.value(in[5]));
        Due.is("no doubts of pigeons", 0, x.doubts());
    }

    private static void fullListOfHardOnes() {
        GateBench x = new GateBench();
        int[] in = inputsOf(x, 12);
        int odd = in[0];
        for (int k = 1; k < 12; k++) {
            odd = x.join(2, odd, in[k]);
        }
        for (int i = 0; i < 18; i++) {
            x.want(odd);
        }
        int even = in[11];
        for (int k = 10; k >= 0; k--) {
            even = x.join(2, even, in[k]);
        }
        x.want(x.not(even));
        x.want(x.not(0));
        Due.is("two are needed", 2, x.shorten());
        Due.is("the last odd one", odd, x.wanted(0));
        Due.is("no doubts of a full list", 0, x.doubts());
    }
}
