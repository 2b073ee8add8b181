import java.io.IOException;
import java.nio.file.Files;
import java.nio.file.Path;
import java.util.HashMap;
import java.util.Map;
import java.util.TreeSet;
import java.util.regex.Matcher;
import java.util.regex.Pattern;

/** README.md tells every call of the face and no other, and its examples answer as it says. */
public final class ReadmeTest extends Checks {
    private static final Pattern ROW = Pattern.compile("(?m)^\\| `(\\w+)(\\([^)]*\\))` \\| ([^|]+) \\| `(\\w+)`(.*) \\|$");
    private static final Pattern EXAMPLE =
        Pattern.compile("(?m)^(?:int (\\w+) = )?net\\.(\\w+)\\(([^)]*)\\); +// (-?\\w+)(?:: .*)?$");

    private static String readme() {
        try {
            return Files.readString(Path.of("README.md"));
        } catch (IOException e) {
            throw new IllegalStateException("the tests are run in the project's directory", e);
        }
    }

    private static void eachCallHasARow() {
        Map<String, Face> face = Face.ofTheDocument();
        TreeSet<String> rows = new TreeSet<>();
        Matcher row = ROW.matcher(readme());
        while (row.find()) {
            String name = row.group(1);
            if (!face.containsKey(name) || !rows.add(name)) {
                fault("README.md tells of " + name + ", which is no call of the face, or told twice");
                continue;
            }
            if (!face.get(name).written().equals(name + row.group(2))) {
                fault("README.md writes " + name + row.group(2) + ", due is " + face.get(name).written());
            }
            if (!face.get(name).refusal().equals(row.group(4))) {
                fault("README.md: " + name + " refuses by " + row.group(4) + ", due is " + face.get(name).refusal());
            }
        }
        due("calls told", face.size(), rows.size());
    }

    private static void eachExampleAnswersAsItSays() {
        CarrierNet net = new CarrierNet();
        Map<String, Integer> names = new HashMap<>();
        Matcher example = EXAMPLE.matcher(readme());
        int examples = 0;
        while (example.find()) {
            int answer = (int) Twins.ask(net, example.group(2), numbers(example.group(3), names));
            if (example.group(1) != null) {
                names.put(example.group(1), answer);
            }
            due("README.md, " + example.group(), meant(example.group(4)), answer);
            examples++;
        }
        due("calls with their answers behind them", readme().lines().filter(l -> l.matches("(int \\w+ = )?net\\..*")).count(),
            examples);
        yes("there are examples", examples > 0);
    }

    private static int[] numbers(String arguments, Map<String, Integer> names) {
        String[] words = arguments.split(", ");
        int[] numbers = new int[words.length];
        for (int i = 0; i < words.length; i++) {
            numbers[i] = names.containsKey(words[i]) ? names.get(words[i]) : Integer.parseInt(words[i]);
        }
        return numbers;
    }

    private static int meant(String word) {
        switch (word) {
            case "true": return 1;
            case "false": return 0;
            case "NONE": return NONE;
            case "NoSuchElementException": return THROWN;
            default: return Integer.parseInt(word);
        }
    }

    public static void main(String[] args) throws ReflectiveOperationException {
        all(ReadmeTest.class);
    }
}
