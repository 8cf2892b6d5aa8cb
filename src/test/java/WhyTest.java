/** Promise 10. */
public final class WhyTest {
    public static void main(String[] args) {
        Check check = new Check("WhyTest");
        FlatLoader x = Setup.withPresent(0, 1, 2, 3);
        x.file(0, 4, -1);
        x.file(0, 5, -2);
        x.file(0, 6, 23);
        x.file(1, 8, -1);
        x.file(2, 8, -1);
        x.file(2, 12, -1);
        x.file(0, 13, -1);
        x.file(3, 16, -1);
        Setup.own(x, 0, 1, 2);
        x.depend(0, 1, Setup.paths(2), 0, false);
        x.depend(0, 2, Setup.ALL, 0, false);
        for (int name = 0; name < 24; name++) {
            check.same(1, "why(0, " + name + ") before it is loaded", x.why(0, name));
        }
        wrongNumbers(check, x);
        Setup.load(x, 0, 3);
        found(check, x);
        notFound(check, x);
        check.due(0, "defined(): why defines nothing", x::defined);
        check.end();
    }

    private static void wrongNumbers(Check check, FlatLoader x) {
        for (int wrong : new int[] {-1, 8, 32, Integer.MIN_VALUE, Integer.MAX_VALUE}) {
            check.due(1, "why(" + wrong + ", 0)", () -> x.why(wrong, 0));
        }
        check.due(1, "why(7, 0): not present", () -> x.why(7, 0));
    }

    private static void found(Check check, FlatLoader x) {
        for (int wrong : new int[] {-1, 24, Integer.MIN_VALUE, Integer.MAX_VALUE}) {
            check.due(1, "why(0, " + wrong + ")", () -> x.why(0, wrong));
        }
        check.due(0, "why(0, 0)", () -> x.why(0, 0));
        check.due(0, "why(3, 1): the platform, without any dependency", () -> x.why(3, 1));
        check.due(0, "why(0, 4)", () -> x.why(0, 4));
        check.due(0, "why(0, 5): broken, but found", () -> x.why(0, 5));
        check.due(0, "why(0, 6): cannot be defined, but found", () -> x.why(0, 6));
        check.due(0, "why(0, 8)", () -> x.why(0, 8));
        check.due(0, "why(0, 12)", () -> x.why(0, 12));
    }

    private static void notFound(Check check, FlatLoader x) {
        check.due(2, "why(3, 16): 3 holds it, but has no OWN", () -> x.why(3, 16));
        check.due(2, "why(1, 4): 1 has no dependency on 0", () -> x.why(1, 4));
        check.due(4, "why(0, 2)", () -> x.why(0, 2));
        check.due(4, "why(0, 20)", () -> x.why(0, 20));
        x.unload(2);
        check.due(3, "why(0, 12): 2 is not loaded", () -> x.why(0, 12));
        check.due(0, "why(0, 8): 1 still has it", () -> x.why(0, 8));
        check.due(2, "why(3, 8): held by a loaded one and by one that is not", () -> x.why(3, 8));
        x.unload(1);
        check.due(3, "why(0, 8): neither is loaded", () -> x.why(0, 8));
        check.due(1, "why(1, 8)", () -> x.why(1, 8));
    }
}
