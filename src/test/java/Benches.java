/** What several tests do with a bench: make one with inputs, set them, and read its state as a text. */
final class Benches {
    private Benches() {
    }

    /** The inputs are formulas 1, 2 and so on. */
    static GateBench withInputs(int inputs) {
        GateBench x = new GateBench();
        for (int k = 0; k < inputs; k++) {
            x.input();
        }
        return x;
    }

    /** The inputs as they are, first one first, of a bench that was made with its inputs. */
    static String inputsOf(GateBench x) {
        StringBuilder text = new StringBuilder();
        for (int k = 0; k < x.count(1); k++) {
            text.append(x.value(k + 1) ? '1' : '0');
        }
        return text.toString();
    }

    static String listOf(GateBench x) {
        StringBuilder text = new StringBuilder();
        for (int i = 0; i < x.count(2); i++) {
            text.append(x.wanted(i)).append(' ');
        }
        return text.toString();
    }

    /** All that can be seen of a bench without changing it. */
    static String stateOf(GateBench x) {
        StringBuilder text = new StringBuilder();
        text.append(x.count(1)).append(" inputs, formulas ");
        for (int a = 0; a < x.count(0); a++) {
            text.append(x.value(a) ? '1' : '0');
        }
        return text.append(", list ").append(listOf(x)).append(", doubts ").append(x.doubts()).toString();
    }

    static void put(GateBench x, String inputs) {
        for (int k = 0; k < inputs.length(); k++) {
            x.put(k, inputs.charAt(k) == '1');
        }
    }

    /** What a formula is for all inputs, the least ones first. */
    static String table(GateBench x, int formula) {
        StringBuilder text = new StringBuilder();
        int inputs = x.count(1);
        for (int row = 0; row < 1 << inputs; row++) {
            for (int k = 0; k < inputs; k++) {
                x.put(k, (row >> (inputs - 1 - k) & 1) == 1);
            }
            text.append(x.value(formula) ? '1' : '0');
        }
        return text.toString();
    }
}
