import java.lang.reflect.Method;
import java.nio.file.Files;
import java.nio.file.Path;
import java.util.HashMap;
import java.util.Map;
import java.util.regex.Matcher;
import java.util.regex.Pattern;

/** The examples of README.md answer what stands behind them. */
public final class ReadmeTests extends Checks {
    private static final String NEW = "BooleanRuns x = new BooleanRuns();";
    private static final Pattern ROW = Pattern.compile(
        "(?:int (\\w+) = )?x\\.(\\w+)\\(([^)]*)\\);\\s*// (-?\\d+|true|false|NONE|BAD|FULL|STATE)(?::.*)?");

    private final BooleanRuns x = new BooleanRuns();
    private final Map<String, Integer> names = new HashMap<>();

    private long numberOf(String word) {
        switch (word) {
            case "true": return 1;
            case "false": return 0;
            case "NONE": return NONE;
            case "BAD": return BAD;
            case "FULL": return FULL;
            case "STATE": return STATE;
            default: return names.containsKey(word) ? names.get(word) : Long.parseLong(word);
        }
    }

    private long answerOf(String name, String arguments) throws Exception {
        String[] words = arguments.isEmpty() ? new String[0] : arguments.split(", ");
        Object[] numbers = new Object[words.length];
        for (int i = 0; i < words.length; i++) numbers[i] = (int) numberOf(words[i]);
        for (Method m : BooleanRuns.class.getMethods()) {
            if (m.getName().equals(name) && m.getParameterCount() == words.length) {
                Object answer = m.invoke(x, numbers);
                return answer instanceof Boolean ? ((Boolean) answer ? 1 : 0) : ((Number) answer).longValue();
            }
        }
        throw new IllegalStateException("no call " + name + " with " + words.length + " numbers");
    }

    private void tryRow(String line) throws Exception {
        Matcher m = ROW.matcher(line);
        if (!m.matches()) {
            due("a row of another form: " + line, 0, 1);
            return;
        }
        long answer = answerOf(m.group(2), m.group(3));
        due(line, answer, numberOf(m.group(4)));
        if (m.group(1) != null) names.put(m.group(1), (int) answer);
    }

    public static void main(String[] args) throws Exception {
        ReadmeTests example = null;
        int examples = 0;
        for (String line : Files.readAllLines(Path.of("README.md"))) {
            if (line.equals(NEW)) {
                sentence("README.md");
                example = new ReadmeTests();
                examples++;
            } else if (line.startsWith("```")) {
                example = null;
            } else if (example != null) {
                example.tryRow(line);
            }
        }
        due("there are examples", examples > 0, true);
        finish("ReadmeTests");
    }
}
