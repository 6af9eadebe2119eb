import java.io.IOException;
import java.nio.file.Files;
import java.nio.file.Path;
import java.util.ArrayList;
import java.util.List;
import java.util.regex.Matcher;
import java.util.regex.Pattern;

/** README.md's examples, in their order on one object: each answers what stands beside it, and no call is left out. */
public final class ReadmeTest {
    private static final Pattern EXAMPLE = Pattern.compile("(?m)^(x\\.[^;]+); +// (-?\\d+):");

    private static final List<String> TOLD = new ArrayList<>();
    private static int next = 0;

    public static void main(String[] args) throws IOException {
        String readme = Files.readString(Path.of("README.md"));
        Matcher example = EXAMPLE.matcher(readme);
        while (example.find()) {
            TOLD.add(example.group(1) + " " + example.group(2));
        }
        examples();
        Due.due("examples in README.md", TOLD.size(), next);
        everyCallIsNamed(readme);
        Due.end();
    }

    private static void example(String call, int got) {
        String want = next < TOLD.size() ? TOLD.get(next) : "nothing";
        next++;
        Due.due("README.md tells " + want + ", here is " + call + " " + got, want.equals(call + " " + got));
    }

    private static void examples() {
        ImmunityCatching x = new ImmunityCatching();
        example("x.soul(14, 0)", x.soul(14, 0));
        example("x.soul(25, 0)", x.soul(25, 0));
        example("x.steps(1)", x.steps(1));
        example("x.ofSoul(1, 3)", x.ofSoul(1, 3));
        example("x.then(9, 1, 0)", x.then(9, 1, 0));
        example("x.gloves(0, 5)", x.gloves(0, 5));
        example("x.gloves(1, 5)", x.gloves(1, 5));
        example("x.feed(0x323E6EL, 3)", x.feed(0x323E6EL, 3));
        example("x.text(0)", x.text(0));
        example("x.meet(0, 1)", x.meet(0, 1));
        example("x.feed(0x2B6EL, 2)", x.feed(0x2B6EL, 2));
        example("x.text(0)", x.text(0));
    }

    private static void everyCallIsNamed(String readme) {
        for (String call : FaceTest.names()) {
            Due.due("README.md names " + call, readme.contains("`" + call + "`"));
        }
    }
}
