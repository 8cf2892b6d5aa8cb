import java.util.Map;
import java.util.Random;
import java.util.TreeMap;

/** Long runs of calls, the same each time, that FlatLoader and PlainLoader must answer alike. */
public final class RandomRunsTest {
    private static final int RUNS = 3000;
    private static final int CALLS_OF_A_RUN = 512;
    private static final int SEED = 20261115;

    private static final String[] KINDS = {"present", "file", "depend", "relink", "load", "unload", "find",
        "visible", "why", "state", "above", "defined"};
    /** How often each kind is called, while a run is set up and after that. */
    private static final int[] AT_FIRST = {20, 40, 25, 1, 0, 1, 1, 1, 1, 1, 1, 1};
    private static final int[] LATER = {1, 5, 10, 2, 12, 5, 50, 30, 10, 6, 20, 3};
    /** The answers that each kind of call must have given, so that the runs are known to reach them. */
    private static final int[][] MUST_COME = {
        {Check.DONE, Check.ARGUMENT, Check.STATE},
        {Check.DONE, Check.ARGUMENT, Check.STATE},
        {1, 2, 3, 4, 5, 6, Check.ARGUMENT, Check.STATE},
        {0, 1, 2, 3, 4, 5, 6, Check.ARGUMENT},
        {0, 1, 2, 3, 4, 5, 6, 7, 8, Check.ARGUMENT, Check.NO_ELEMENT},
        {0, 1, 2, 3, 4, 5, 6, Check.ARGUMENT, Check.STATE},
        {0, 1, 2, 3, 4, 5, 6, 7, 8, Check.ARGUMENT, Check.STATE, Check.NO_ELEMENT},
        {-1, 0, 1, 2, 3, 4, 5, 6, 7},
        {0, 1, 2, 3, 4},
        {-1, 0, 1, 2, 3},
        {-1, 0, 1, 2, 3, 4, 5, 6, 7, 8, 9},
        {0, 1, 2, 5, 10, 15},
    };

    private final Random random = new Random(SEED);
    private final Check check = new Check("RandomRunsTest");
    private final Map<Integer, Map<Integer, Integer>> answers = new TreeMap<>();
    private FlatLoader real;
    private PlainLoader plain;
    private int[] a;
    private int lastHolder;
    private int lastName;

    /** How a run is: few modules or all, few names or all, and how much is so or so. */
    private int modules;
    private int names;
    private int requiredPercent;
    private int brokenPercent;
    private int widePercent;
    private int chainPercent;

    public static void main(String[] args) {
        new RandomRunsTest().test();
    }

    private void test() {
        for (int run = 0; run < RUNS; run++) {
            oneRun(run);
        }
        for (int kind = 0; kind < KINDS.length; kind++) {
            for (int answer : MUST_COME[kind]) {
                boolean came = answers.get(kind).containsKey(answer);
                check.same(1, "came: " + KINDS[kind] + " " + Check.text(answer), came ? 1 : 0);
            }
        }
        check.end();
    }

    private void oneRun(int run) {
        real = new FlatLoader();
        plain = new PlainLoader();
        modules = random.nextBoolean() ? 8 : 2 + random.nextInt(6);
        names = random.nextBoolean() ? 24 : 4 + random.nextInt(20);
        requiredPercent = random.nextBoolean() ? 5 : random.nextInt(60);
        brokenPercent = random.nextInt(15);
        widePercent = random.nextInt(100);
        chainPercent = random.nextBoolean() ? 0 : 70 + random.nextInt(30);
        int setUp = 20 + random.nextInt(120);
        for (int call = 0; call < CALLS_OF_A_RUN; call++) {
            int kind = pick(call < setUp ? AT_FIRST : LATER);
            a = arguments(kind);
            int got = Check.answerOf(() -> callReal(kind));
            int due = Check.answerOf(() -> callPlain(kind));
            answers.computeIfAbsent(kind, k -> new TreeMap<>()).merge(due, 1, Integer::sum);
            if (kind == 6 && due < 8) {
                lastHolder = due;
                lastName = a[1];
            }
            check.same(due, "run " + run + " call " + call + ": " + text(kind), got);
        }
    }

    private int pick(int[] weights) {
        int sum = 0;
        for (int weight : weights) {
            sum += weight;
        }
        int left = random.nextInt(sum);
        int kind = 0;
        while (left >= weights[kind]) {
            left -= weights[kind];
            kind++;
        }
        return kind;
    }

    private int[] arguments(int kind) {
        return switch (kind) {
            case 1 -> file(name());
            case 2 -> new int[] {module(), on(), paths(), paths(), percent(requiredPercent) ? 1 : 0};
            case 7 -> new int[] {module(), between(0, 5), between(0, random.nextBoolean() ? 1 : 8)};
            case 10 -> percent(50) ? new int[] {lastHolder, lastName} : new int[] {module(), name()};
            case 6, 8 -> new int[] {module(), name()};
            default -> new int[] {module()};
        };
    }

    /** In some runs most classes extend that of the next name, so that long chains come about. */
    private int[] file(int name) {
        return new int[] {module(), name, name < 23 && percent(chainPercent) ? name + 1 : extended()};
    }

    private boolean percent(int chance) {
        return random.nextInt(100) < chance;
    }

    /** Now and then a number just outside, or far outside. */
    private int between(int first, int last) {
        if (percent(3)) {
            int[] outside = {first - 1, last + 1, first - 2, Integer.MIN_VALUE, Integer.MAX_VALUE};
            return outside[random.nextInt(outside.length)];
        }
        return first + random.nextInt(last - first + 1);
    }

    private int module() {
        return percent(3) ? between(0, 7) : between(0, modules - 1);
    }

    private int on() {
        return percent(35) ? -1 : module();
    }

    private int name() {
        return between(0, names - 1);
    }

    private int extended() {
        if (percent(brokenPercent)) {
            return -2;
        }
        return percent(15) ? -1 : name();
    }

    private int paths() {
        return percent(widePercent) ? 63 : between(0, 63);
    }

    private int callReal(int kind) {
        switch (kind) {
            case 0: real.present(a[0]); return Check.DONE;
            case 1: real.file(a[0], a[1], a[2]); return Check.DONE;
            case 2: return real.depend(a[0], a[1], a[2], a[3], a[4] == 1);
            case 3: return real.relink(a[0]);
            case 4: return real.load(a[0]);
            case 5: return real.unload(a[0]);
            case 6: return real.find(a[0], a[1]);
            case 7: return real.visible(a[0], a[1], a[2]);
            case 8: return real.why(a[0], a[1]);
            case 9: return real.state(a[0]);
            case 10: return real.above(a[0], a[1]);
            default: return real.defined();
        }
    }

    private int callPlain(int kind) {
        switch (kind) {
            case 0: plain.present(a[0]); return Check.DONE;
            case 1: plain.file(a[0], a[1], a[2]); return Check.DONE;
            case 2: return plain.depend(a[0], a[1], a[2], a[3], a[4] == 1);
            case 3: return plain.relink(a[0]);
            case 4: return plain.load(a[0]);
            case 5: return plain.unload(a[0]);
            case 6: return plain.find(a[0], a[1]);
            case 7: return plain.visible(a[0], a[1], a[2]);
            case 8: return plain.why(a[0], a[1]);
            case 9: return plain.state(a[0]);
            case 10: return plain.above(a[0], a[1]);
            default: return plain.defined();
        }
    }

    private String text(int kind) {
        StringBuilder text = new StringBuilder(KINDS[kind]).append('(');
        for (int i = 0; i < a.length && kind != 11; i++) {
            text.append(i == 0 ? "" : ", ").append(a[i]);
        }
        return text.append(')').toString();
    }
}
