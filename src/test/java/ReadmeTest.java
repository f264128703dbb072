import java.io.IOException;
import java.nio.file.Files;
import java.nio.file.Path;
import java.util.ArrayList;
import java.util.List;

/** The example of README.md, call by call: its comments begin with what the calls answer. */
public final class ReadmeTest {
    private static final List<String> SHOWN = new ArrayList<>();

    private ReadmeTest() {
    }

    public static void main(String[] args) throws IOException {
        example(new GateBench());
        Due.is("the example of README.md", exampleOf(Path.of("README.md")), SHOWN);
        Due.end();
    }

    private static void example(GateBench bench) {
        int a = show("int a = bench.input();", bench.input());
        int b = show("int b = bench.input();", bench.input());
        int both = show("int both = bench.join(0, a, b);", bench.join(0, a, b));
        int swapped = show("int swapped = bench.join(0, b, a);", bench.join(0, b, a));
        int notA = show("int notA = bench.not(a);", bench.not(a));
        int picked = show("int picked = bench.choose(a, b, a);", bench.choose(a, b, a));
        int differ = show("int differ = bench.join(2, a, b);", bench.join(2, a, b));
        show("bench.same(both, swapped);", bench.same(both, swapped));
        show("bench.same(both, picked);", bench.same(both, picked));
        show("bench.same(both, differ);", bench.same(both, differ));
        show("bench.value(b);", bench.value(b));
        show("bench.put(1, false);", bench.put(1, false));
        show("bench.want(differ);", bench.want(differ));
        show("bench.want(a);", bench.want(a));
        show("bench.can();", bench.can());
        show("bench.value(differ);", bench.value(differ));
        show("bench.want(b);", bench.want(b));
        show("bench.want(notA);", bench.want(notA));
        show("bench.can();", bench.can());
        show("bench.shorten();", bench.shorten());
        show("bench.wanted(0);", bench.wanted(0));
        show("bench.wanted(1);", bench.wanted(1));
        show("bench.doubts();", bench.doubts());
        show("bench.clear();", bench.clear());
        show("bench.count(0);", bench.count(0));
    }

    private static <T> T show(String call, T answer) {
        SHOWN.add(call + " // " + answer);
        return answer;
    }

    /** The commented lines of the Java part, each with its comment as far as the answer goes. */
    private static List<String> exampleOf(Path readme) throws IOException {
        List<String> calls = new ArrayList<>();
        boolean inside = false;
        for (String line : Files.readAllLines(readme)) {
            if (line.startsWith("```")) {
                inside = line.equals("```java");
            } else if (inside && line.contains("//")) {
                calls.add(line.replaceAll(" +// *([^: ]*).*", " // $1"));
            }
        }
        return calls;
    }
}
