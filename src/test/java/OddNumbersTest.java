import java.util.function.IntSupplier;

/**
 * Every call with every odd number in every place: what is out of range has the answer that the document
 * names for it, and nothing but what the document names ever comes (rules 6 and 7 of LANGUAGE.md).
 */
public final class OddNumbersTest {
    private static final Check CHECK = new Check("OddNumbersTest");
    private static final int[] ODD = {Integer.MIN_VALUE, Integer.MIN_VALUE + 1, Integer.MIN_VALUE + 4, -65536, -64,
        -33, -32, -31, -24, -8, -4, -3, -2, -1, 0, 1, 4, 5, 6, 7, 8, 9, 16, 23, 24, 25, 31, 32, 33, 63, 64, 65, 255,
        256, 65536, 1 << 29, 1 << 30, (1 << 30) + 1, Integer.MAX_VALUE - 4, Integer.MAX_VALUE};
    private static final int CALLS_OF_AN_OBJECT = 512;

    private static boolean empty;
    private static FlatLoader x;
    private static int calls;

    public static void main(String[] args) {
        for (int round = 0; round < 2; round++) {
            empty = round == 0;
            renew();
            callAll();
        }
        CHECK.end();
    }

    private static void callAll() {
        for (int a : ODD) {
            ofOneNumber(a);
            for (int b : ODD) {
                ofTwoNumbers(a, b);
                for (int c : ODD) {
                    ofThreeNumbers(a, b, c);
                }
            }
        }
    }

    private static void renew() {
        x = empty ? new FlatLoader() : Setup.withEveryKind();
        // More than the making of either takes.
        calls = 50;
    }

    private static void ofOneNumber(int a) {
        boolean good = within(a, 0, 7);
        look(good, Check.ARGUMENT, "present(" + a + ")", () -> {
            x.present(a);
            return Check.DONE;
        }, Check.DONE, Check.DONE, Check.STATE);
        look(good, Check.ARGUMENT, "relink(" + a + ")", () -> x.relink(a), 0, 6, Check.ARGUMENT);
        look(good, Check.ARGUMENT, "load(" + a + ")", () -> x.load(a), 0, 8, Check.NO_ELEMENT);
        look(good, Check.ARGUMENT, "unload(" + a + ")", () -> x.unload(a), 0, 22, Check.ARGUMENT, Check.STATE);
        look(good, -1, "state(" + a + ")", () -> x.state(a), 0, 3);
        look(true, 0, "defined()", () -> x.defined(), 0, 176);
    }

    private static void ofTwoNumbers(int a, int b) {
        boolean good = within(a, 0, 7) && within(b, 0, 23);
        String two = "(" + a + ", " + b + ")";
        look(good, Check.ARGUMENT, "find" + two, () -> x.find(a, b), 0, 8,
                Check.ARGUMENT, Check.NO_ELEMENT, Check.STATE);
        look(good, 1, "why" + two, () -> x.why(a, b), 0, 4);
        look(good, -1, "above" + two, () -> x.above(a, b), -1, 9);
    }

    private static void ofThreeNumbers(int a, int b, int c) {
        String three = "(" + a + ", " + b + ", " + c + ")";
        look(within(a, 0, 7) && within(b, 0, 5) && within(c, 0, 7), -1, "visible" + three,
                () -> x.visible(a, b, c), -1, 7);
        boolean goodFile = within(a, 0, 7) && within(b, 0, 23) && within(c, -2, 23);
        look(goodFile, Check.ARGUMENT, "file" + three, () -> {
            x.file(a, b, c);
            return Check.DONE;
        }, Check.DONE, Check.DONE, Check.ARGUMENT, Check.STATE);
        depend(a, b, c, 63, true);
        depend(a, b, 63, c, false);
    }

    private static void depend(int m, int on, int imports, int exports, boolean required) {
        boolean good = within(m, 0, 7) && within(on, -1, 7) && on != m
                && within(imports, 0, 63) && within(exports, 0, 63);
        String call = "depend(" + m + ", " + on + ", " + imports + ", " + exports + ", " + required + ")";
        look(good, Check.ARGUMENT, call, () -> x.depend(m, on, imports, exports, required), 1, 6,
                Check.ARGUMENT, Check.STATE);
    }

    private static boolean within(int number, int first, int last) {
        return number >= first && number <= last;
    }

    /** The answer of a good call is from least to most, or one of the others. */
    private static void look(boolean good, int dueIfBad, String call, IntSupplier run,
            int least, int most, int... others) {
        calls++;
        if (calls > CALLS_OF_AN_OBJECT) {
            renew();
        }
        int got = Check.answerOf(run);
        boolean allowed = within(got, least, most);
        for (int other : others) {
            allowed |= got == other;
        }
        if (!good) {
            CHECK.same(dueIfBad, call, got);
        } else if (!allowed) {
            CHECK.same(least, call + " (from " + least + " to " + most + " would be due)", got);
        }
    }
}
