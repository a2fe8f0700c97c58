import java.io.IOException;
import java.nio.file.Files;
import java.nio.file.Path;
import java.util.Set;
import java.util.TreeSet;
import java.util.regex.Matcher;
import java.util.regex.Pattern;

/** The calls that README.md shows answer as it says, and it shows each call of the face. */
public final class Readme {
    private static final Pattern MAKES = Pattern.compile("CuttingRules rules = new CuttingRules\\(\\);");
    private static final Pattern CALLS = Pattern.compile("rules\\.((\\w+)\\([^()]*\\)); +// (-?\\w+)(: .+)?");
    private static final int CALLS_OF_THE_FACE = 20;

    private final Set<String> shown = new TreeSet<>();
    private CuttingRules rules;

    public static void main(String[] args) throws IOException {
        Readme readme = new Readme();
        boolean isJava = false;
        int number = 0;
        for (String line : Files.readAllLines(Path.of("README.md"))) {
            number++;
            if (line.startsWith("```")) {
                isJava = line.equals("```java");
                readme.rules = null;
            } else if (isJava && !line.isBlank()) {
                readme.look("README.md, line " + number + ": ", line.strip());
            }
        }
        Due.is("README.md shows " + readme.shown + ": how many calls of the face", readme.shown.size(), CALLS_OF_THE_FACE);
        Due.end();
    }

    private void look(String place, String line) {
        if (MAKES.matcher(line).matches()) {
            rules = new CuttingRules();
            return;
        }
        Matcher call = CALLS.matcher(line);
        boolean isCall = call.matches();
        Due.holds(place + line + " is no call of an object with its answer", isCall && rules != null);
        if (isCall && rules != null) {
            shown.add(call.group(2));
            Due.is(place + call.group(1), Calls.answer(rules, call.group(1)), Calls.number(call.group(3)));
        }
    }
}
