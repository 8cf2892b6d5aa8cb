import java.io.IOException;
import java.nio.file.Files;
import java.nio.file.Path;
import java.util.List;
import java.util.Set;
import java.util.TreeSet;
import java.util.regex.Matcher;
import java.util.regex.Pattern;

/** What README.md shows of the class is what the class answers, and every call of the face is shown. */
public final class ReadmeTest {
    private static final Pattern CALL = Pattern.compile("x\\.(\\w+)\\(([^()]*)\\);(?:\\s+// (.*))?");
    private static final Pattern ANSWER = Pattern.compile("(?:throws (\\w+Exception)|(-?\\d+))(?:: .*)?");
    private static final Set<String> WITHOUT_ANSWER = Set.of("present", "file");
    private static final Set<String> FACE = new TreeSet<>(List.of("present", "file", "depend", "relink", "load",
            "unload", "find", "visible", "why", "state", "above", "defined"));

    public static void main(String[] args) throws IOException {
        Sentences the = new Sentences("ReadmeTest");
        Set<String> shown = new TreeSet<>();
        String[] parts = Files.readString(Path.of("README.md")).split("```java\n");
        for (int i = 1; i < parts.length; i++) {
            the.holds("README.md, example " + i, run(parts[i].split("```", 2)[0], shown));
        }
        the.end();
        if (!shown.equals(FACE)) {
            System.out.println("ReadmeTest: README.md shows " + shown + ", due is " + FACE);
            System.exit(1);
        }
    }

    private static String run(String example, Set<String> shown) {
        StringBuilder run = new StringBuilder();
        for (String line : example.split("\n")) {
            if (line.equals("FlatLoader x = new FlatLoader();")) {
                run.append("new\n");
                continue;
            }
            Matcher call = CALL.matcher(line);
            if (!call.matches()) {
                throw new AssertionError("README.md shows something else than a call: " + line);
            }
            shown.add(call.group(1));
            run.append(call.group(1)).append(' ').append(numbers(call.group(2)));
            run.append(" -> ").append(due(line, call)).append('\n');
        }
        return run.toString();
    }

    private static String numbers(String arguments) {
        return arguments.replace(",", "").replace("true", "required").replace("false", "optional");
    }

    /** A remark behind a call without an answer says something else, unless it is of an exception. */
    private static String due(String line, Matcher call) {
        Matcher answer = ANSWER.matcher(call.group(3) == null ? "" : call.group(3));
        boolean told = answer.matches();
        if (told && answer.group(1) != null) {
            return answer.group(1);
        }
        if (WITHOUT_ANSWER.contains(call.group(1))) {
            return "done";
        }
        if (!told) {
            throw new AssertionError("README.md does not tell the answer of: " + line);
        }
        return answer.group(2);
    }
}
