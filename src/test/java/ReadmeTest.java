import java.io.IOException;
import java.nio.file.Files;
import java.nio.file.Path;
import java.util.HashMap;
import java.util.Map;
import java.util.regex.Matcher;
import java.util.regex.Pattern;

/** The example in README.md: each of its calls answers what the comment behind it begins with. */
public final class ReadmeTest {
    private static final Pattern CALL =
            Pattern.compile("(?:int (\\w+) = )?house\\.(\\w+)\\((.*)\\); +// (NONE|true|false|-?\\d+)\\b.*");
    private static final String[] FACE = {"pipe", "tap", "set", "loop", "draw", "run", "plug", "told",
        "dead", "warm", "drawn", "heat", "shock"};

    public static void main(String[] args) throws IOException {
        String text = Files.readString(Path.of("README.md"));
        Check.is("calls in the example", playExample(text), 16);
        for (String name : FACE) {
            Check.is("README.md tells of " + name, text.contains("| `" + name + "("), true);
        }
        Check.is("README.md says how to run the tests", text.contains(".ci/run"), true);
        Check.end();
    }

    private static int playExample(String text) {
        HotLoops house = new HotLoops();
        Map<String, String> known = new HashMap<>(Map.of("HotLoops.NONE", "NONE"));
        int calls = 0;
        for (String line : text.split("\n")) {
            Matcher call = CALL.matcher(line);
            if (call.matches()) {
                calls++;
                String answer = Calls.answer(house, call.group(2) + "(" + inNumbers(call.group(3), known) + ")");
                Check.same(line, answer, Long.toString(Calls.number(call.group(4))));
                known.put(String.valueOf(call.group(1)), answer);
            } else {
                Check.is(line + " is a call without an answer", line.contains("house."), false);
            }
        }
        return calls;
    }

    private static String inNumbers(String arguments, Map<String, String> known) {
        String[] parts = arguments.split(", ");
        for (int i = 0; i < parts.length; i++) {
            parts[i] = known.getOrDefault(parts[i], parts[i]);
        }
        return String.join(", ", parts);
    }
}
