import java.io.IOException;
import java.nio.file.Files;
import java.nio.file.Path;
import java.util.HashMap;
import java.util.List;
import java.util.Map;
import java.util.regex.Matcher;
import java.util.regex.Pattern;

/** The calls that README.md shows answer what it says behind them, and it names the script that runs the tests. */
public final class ReadmeTest {
    private static final Path FILE = Path.of("README.md");
    private static final Pattern CALL = Pattern.compile("(?:int (\\w+) = )?town\\.(\\w+)\\(([^)]*)\\); +// (-?\\d+)(:.*)?");

    private ReadmeTest() {
    }

    public static void main(String[] args) throws IOException {
        List<String> lines = Files.readAllLines(FILE);
        VotedWater town = new VotedWater();
        Map<String, Integer> names = new HashMap<>();
        boolean shown = false;
        int calls = 0;
        for (String line : lines) {
            if (line.startsWith("```")) {
                shown = line.equals("```java");
            } else if (shown && line.contains("town.")) {
                callLine(town, names, line);
                calls++;
            }
        }
        Script.expect("README.md shows calls", calls > 20 ? 1 : 0, 1);
        Script.expect("README.md names .ci/run", lines.contains("    .ci/run") ? 1 : 0, 1);
        Script.end();
    }

    private static void callLine(VotedWater town, Map<String, Integer> names, String line) {
        Matcher m = CALL.matcher(line);
        if (!m.matches()) {
            Script.expect("README.md: no call with its answer: " + line, 0, 1);
            return;
        }
        String[] words = m.group(3).isEmpty() ? new String[0] : m.group(3).split(", ");
        long[] args = new long[words.length];
        for (int i = 0; i < args.length; i++) {
            Integer named = names.get(words[i]);
            args[i] = named != null ? named : Long.decode(words[i]);
        }
        int got = Face.call(town, m.group(2), args);
        Script.expect("README.md: " + line, got, Integer.parseInt(m.group(4)));
        if (m.group(1) != null) {
            names.put(m.group(1), got);
        }
    }
}
