import java.nio.charset.StandardCharsets;
import java.nio.file.Files;
import java.nio.file.Path;
import java.util.List;

/** The example of README.md: each call of it is told there with the answer that the class gives. */
public final class ExampleTest {
    private static final List<String> PROGRAM = List.of(
        "food oats 370 is grain; food milk 64 price 12 is dairy; food leek 31 is green;",
        "dish porridge for 2: 100 oats, 300 milk is breakfast;",
        "dish soup for 4: 800 leek, 200 milk;",
        "meal morning: breakfast; meal noon: green and not breakfast;",
        "rule most 3 soup in 4; rule energy 300 to 900;");

    private static List<String> readme;

    public static void main(String[] args) throws Exception {
        readme = Files.readAllLines(Path.of("README.md"), StandardCharsets.UTF_8);
        for (String line : PROGRAM) {
            Check.sameLong("README.md has " + line, readme.contains(line) ? 1 : 0, 1);
        }
        MenuScript script = new MenuScript();
        write(script, String.join("\n", PROGRAM));
        told("script.compile()", script.compile());
        told("script.errorAt()", script.errorAt());
        told("script.dish(0, 1)", script.dish(0, 1));
        told("script.plan(4)", script.plan(4));
        told("script.at(3, 1)", script.at(3, 1));
        told("script.faultsOf(1)", script.faultsOf(1));
        told("script.set(0, 1, -1)", script.set(0, 1, -1));
        told("script.faults()", script.faults());
        told("script.improve()", script.improve());
        told("script.times(1)", script.times(1));
        told("script.buy(1, 3)", script.buy(1, 3));
        write(script, "dairy and not soup");
        told("script.test()", script.test());
        told("script.suited()", script.suited());
        Check.end("ExampleTest");
    }

    private static void told(String call, long answer) {
        boolean isTold = false;
        for (String line : readme) {
            isTold |= line.startsWith(call + ";") && (line + ",").contains("// " + answer + ",");
        }
        Check.sameLong("README.md tells " + answer + " for " + call, isTold ? 1 : 0, 1);
    }

    /** As in README.md; the other tests use Check.write. */
    private static void write(MenuScript script, String text) {
        int length = script.count(7) + text.length();
        for (int start = 0; start < text.length(); start += 20) {
            int[] five = new int[5];
            for (int i = 0; i < 20; i++) {
                int sign = start + i < text.length() ? text.charAt(start + i) : ' ';
                five[i / 4] = five[i / 4] << 8 | sign;
            }
            script.feed(five[0], five[1], five[2], five[3], five[4]);
        }
        script.trim(length);
    }
}
