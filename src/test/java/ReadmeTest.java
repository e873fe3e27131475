import java.io.IOException;
import java.nio.file.Files;
import java.nio.file.Path;
import java.util.Set;
import java.util.TreeSet;
import java.util.regex.Matcher;
import java.util.regex.Pattern;

/** The run of README.md: each line answers what stands behind it. */
public final class ReadmeTest {
    private static final Path README = Path.of("README.md");
    private static final Pattern CALL = Pattern.compile("x\\.(\\w+)\\((.*?)\\);\\s+// (-?\\d+)(:.*)?");

    private ReadmeTest() {
    }

    public static void main(String[] args) throws IOException {
        CapitalMoved x = new CapitalMoved();
        Set<Long> refusals = new TreeSet<>();
        int calls = 0;
        for (String line : Files.readAllLines(README)) {
            Matcher call = CALL.matcher(line);
            boolean is = call.matches();
            Due.isTrue("a call with its answer: " + line, is || !line.startsWith("x."));
            if (is) {
                calls++;
                long want = Long.parseLong(call.group(3));
                Due.due(line, Calls.ask(x, call.group(1), numbers(call.group(2))), want);
                refusals.add(Math.min(want, 0));
            }
        }
        Due.isTrue("README.md shows a run of at most 512 calls", calls > 0 && calls <= 512);
        Due.due("README.md shows each refusal", refusals.size(), 8);
        Due.end();
    }

    private static long[] numbers(String text) {
        if (text.isEmpty()) {
            return new long[0];
        }
        String[] parts = text.split(", ");
        long[] a = new long[parts.length];
        for (int i = 0; i < a.length; i++) {
            a[i] = parts[i].startsWith("'") ? parts[i].charAt(1) : Long.parseLong(parts[i]);
        }
        return a;
    }
}
