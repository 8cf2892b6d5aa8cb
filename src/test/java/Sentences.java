import java.util.ArrayList;
import java.util.List;
import java.util.Map;

/**
 * Sentences of the document, each with a run of calls on a new object that shows whether it holds.
 *
 * <p>A run has a call in each line: its name, its numbers, and behind {@code ->} the answer that is due,
 * the name of an exception, or {@code done} for a call without an answer. A call without {@code ->} must
 * not throw. A number may be a word of {@link #WORDS}; {@code {2,4..6,BAD_NAME}} stands for several
 * calls, one with each. {@code row m path -> 1,0} asks for the whole visible row, {@code times n} before
 * a call makes it n times, {@code new} goes on with a new object, {@code #} begins a remark.
 */
final class Sentences {
    private static final int CALLS_OF_AN_OBJECT = 512;

    private static final Map<String, String> WORDS = Map.ofEntries(
            Map.entry("OWN", "-1"),
            Map.entry("NOTHING", "-1"),
            Map.entry("BROKEN", "-2"),
            Map.entry("ALL", "63"),
            Map.entry("required", "1"),
            Map.entry("optional", "0"),
            Map.entry("MIN", "-2147483648"),
            Map.entry("MAX", "2147483647"),
            // Beside the next ones also such that wrap around to a good one in a shift or a product.
            Map.entry("BAD_MODULE", "{-1,8,9,-2,-8,16,31,32,33,39,-24,-31,-32,64,256,65536,MIN,-2147483647,MAX}"),
            Map.entry("BAD_NAME", "{-1,24,25,-2,-3,-4,-24,28,32,36,256,65540,1073741824,MIN,-2147483644,MAX}"),
            Map.entry("BAD_PATH", "{-1,6,7,-2,-6,8,32,33,64,65536,536870912,1073741824,1073741825,MIN,MAX}"),
            Map.entry("BAD_SET", "{-1,64,65,-2,-63,-64,127,128,255,256,65536,MIN,-2147483647,MAX}"));

    private final String test;
    private String sentence;
    private FlatLoader x;
    private int callsOfObject;
    private int answersOfSentence;
    private int sentences = 0;
    private int failed = 0;

    Sentences(String test) {
        this.test = test;
    }

    /** Whether a sentence holds in a run, which must look at one answer at least. */
    void holds(String words, String run) {
        sentence = words;
        answersOfSentence = 0;
        int before = failed;
        goOnWithNewObject();
        for (String line : run.split("\n")) {
            String call = line.split("#", 2)[0].trim();
            if (!call.isEmpty()) {
                take(call);
            }
        }
        if (answersOfSentence == 0) {
            fail("no answer is looked at");
        }
        sentences++;
        failed = Math.min(failed, before + 1);
    }

    void end() {
        System.out.println(test + ": " + sentences + " sentences, " + failed + " of them do not hold");
        if (failed != 0 || sentences == 0) {
            System.exit(1);
        }
    }

    private void fail(String text) {
        failed++;
        System.out.println(test + ": \"" + sentence + "\": " + text);
    }

    private void goOnWithNewObject() {
        x = new FlatLoader();
        callsOfObject = 0;
    }

    private void take(String line) {
        if (line.equals("new")) {
            goOnWithNewObject();
            return;
        }
        String[] halves = line.split("->");
        String due = halves.length == 2 ? halves[1].trim() : null;
        List<String> words = List.of(halves[0].trim().split("\\s+"));
        int times = 1;
        if (words.get(0).equals("times")) {
            times = Integer.parseInt(words.get(1));
            words = words.subList(2, words.size());
        }
        for (int i = 0; i < times; i++) {
            takeEach(words, due);
        }
    }

    private void takeEach(List<String> words, String due) {
        List<List<Integer>> calls = List.of(List.of());
        for (String word : words.subList(1, words.size())) {
            calls = withOneMore(calls, numbers(word));
        }
        for (List<Integer> numbers : calls) {
            String name = words.get(0);
            String got = name.equals("row") ? row(numbers) : answer(name, numbers);
            if (due == null ? got.endsWith("Exception") : !got.equals(due)) {
                fail(name + numbers + " answered " + got + ", due is " + (due == null ? "an answer" : due));
            }
            answersOfSentence += due == null ? 0 : 1;
        }
    }

    private static List<List<Integer>> withOneMore(List<List<Integer>> calls, List<Integer> last) {
        List<List<Integer>> longer = new ArrayList<>();
        for (List<Integer> call : calls) {
            for (int number : last) {
                List<Integer> one = new ArrayList<>(call);
                one.add(number);
                longer.add(one);
            }
        }
        return longer;
    }

    private static List<Integer> numbers(String word) {
        if (WORDS.containsKey(word)) {
            return numbers(WORDS.get(word));
        }
        List<Integer> all = new ArrayList<>();
        if (word.startsWith("{")) {
            for (String part : word.substring(1, word.length() - 1).split(",")) {
                all.addAll(numbers(part));
            }
        } else if (word.contains("..")) {
            String[] ends = word.split("\\.\\.");
            for (int number = Integer.parseInt(ends[0]); number <= Integer.parseInt(ends[1]); number++) {
                all.add(number);
            }
        } else {
            all.add(Integer.parseInt(word));
        }
        return all;
    }

    /** One look more than there are modules, so that a row that is too long is seen. */
    private String row(List<Integer> moduleAndPath) {
        List<String> row = new ArrayList<>();
        for (int i = 0; i <= 8; i++) {
            row.add(answer("visible", List.of(moduleAndPath.get(0), moduleAndPath.get(1), i)));
        }
        while (!row.isEmpty() && row.get(row.size() - 1).equals("-1")) {
            row.remove(row.size() - 1);
        }
        return row.isEmpty() ? "none" : String.join(",", row);
    }

    private String answer(String name, List<Integer> numbers) {
        callsOfObject++;
        if (callsOfObject == CALLS_OF_AN_OBJECT + 1) {
            fail("the run has more calls than the document promises answers for");
        }
        int[] a = numbers.stream().mapToInt(Integer::intValue).toArray();
        try {
            return call(name, a);
        } catch (RuntimeException e) {
            return e.getClass().getSimpleName();
        }
    }

    private String call(String name, int[] a) {
        switch (name) {
            case "present": x.present(a[0]); return "done";
            case "file": x.file(a[0], a[1], a[2]); return "done";
            case "depend": return "" + x.depend(a[0], a[1], a[2], a[3], a[4] == 1);
            case "relink": return "" + x.relink(a[0]);
            case "load": return "" + x.load(a[0]);
            case "unload": return "" + x.unload(a[0]);
            case "find": return "" + x.find(a[0], a[1]);
            case "visible": return "" + x.visible(a[0], a[1], a[2]);
            case "why": return "" + x.why(a[0], a[1]);
            case "state": return "" + x.state(a[0]);
            case "above": return "" + x.above(a[0], a[1]);
            case "defined": return "" + x.defined();
            default: throw new AssertionError("no such call: " + name);
        }
    }
}
