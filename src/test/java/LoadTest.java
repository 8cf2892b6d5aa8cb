/** Promise 6, and what is LOADABLE. */
public final class LoadTest {
    public static void main(String[] args) {
        Check check = new Check("LoadTest");
        wrongModules(check);
        circles(check);
        longChain(check);
        optionalOnes(check);
        throughLoadedOnes(check);
        check.end();
    }

    private static void wrongModules(Check check) {
        FlatLoader x = Setup.withPresent(0, 7);
        for (int m : new int[] {8, -1, 32, Integer.MAX_VALUE, Integer.MIN_VALUE}) {
            check.due(Check.ARGUMENT, "load(" + m + ")", () -> x.load(m));
        }
        check.due(Check.NO_ELEMENT, "load(1): not present", () -> x.load(1));
        x.depend(0, 1, 0, 0, true);
        check.due(Check.NO_ELEMENT, "load(0): requires 1", () -> x.load(0));
        check.due(1, "state(0)", () -> x.state(0));
        x.present(1);
        x.depend(1, 7, 0, 0, true);
        x.depend(7, 3, 0, 0, true);
        check.due(Check.NO_ELEMENT, "load(0): requires 3 over 1 and 7", () -> x.load(0));
        check.due(1, "state(7)", () -> x.state(7));
        x.present(3);
        check.due(4, "load(0)", () -> x.load(0));
        check.due(0, "load(0) again", () -> x.load(0));
        check.due(0, "load(3) again", () -> x.load(3));
    }

    private static void circles(Check check) {
        FlatLoader x = Setup.withPresent(2, 3, 4);
        x.depend(2, 3, 0, 0, true);
        x.depend(3, 4, 0, 0, true);
        x.depend(4, 2, 0, 0, true);
        x.depend(4, Setup.OWN, 0, 0, true);
        check.due(2, "state(3): a circle does not hinder", () -> x.state(3));
        x.depend(3, 5, 0, 0, true);
        for (int m = 2; m <= 4; m++) {
            int module = m;
            check.due(1, "state(" + m + "): the circle lacks 5", () -> x.state(module));
            check.due(Check.NO_ELEMENT, "load(" + m + ")", () -> x.load(module));
        }
        x.present(5);
        check.due(4, "load(4)", () -> x.load(4));
        check.due(3, "state(5)", () -> x.state(5));
    }

    /** Against the order of the modules, so that one round over them is not enough. */
    private static void longChain(Check check) {
        FlatLoader up = Setup.withPresent(0, 1, 2, 3, 4, 5, 6);
        for (int m = 0; m < 7; m++) {
            up.depend(m, m + 1, 0, 0, true);
        }
        check.due(Check.NO_ELEMENT, "load(0): 7 is not present", () -> up.load(0));
        up.present(7);
        check.due(8, "load(0): the whole chain", () -> up.load(0));
        FlatLoader down = Setup.withPresent(1, 2, 3, 4, 5, 6, 7);
        for (int m = 1; m < 8; m++) {
            down.depend(m, m - 1, 0, 0, true);
        }
        check.due(Check.NO_ELEMENT, "load(7): 0 is not present", () -> down.load(7));
        down.present(0);
        check.due(8, "load(7): the whole chain", () -> down.load(7));
    }

    private static void optionalOnes(Check check) {
        FlatLoader x = Setup.withPresent(0, 1, 2, 3, 4);
        x.depend(0, 1, 0, 0, false);
        x.depend(0, 2, 0, 0, false);
        x.depend(0, 6, 0, 0, false);
        x.depend(1, 5, 0, 0, true);
        x.depend(1, 3, 0, 0, false);
        x.depend(2, 4, 0, 0, false);
        check.due(3, "load(0): with 2 and 4; 1 is not loadable, and 3 is behind it", () -> x.load(0));
        check.due(1, "state(1)", () -> x.state(1));
        check.due(3, "state(2)", () -> x.state(2));
        check.due(2, "state(3)", () -> x.state(3));
        check.due(3, "state(4)", () -> x.state(4));
        x.present(6);
        check.due(2, "state(6): not loaded by itself", () -> x.state(6));
        check.due(1, "load(0): only 6 is new", () -> x.load(0));
    }

    private static void throughLoadedOnes(Check check) {
        FlatLoader x = Setup.withPresent(0, 1, 2);
        x.depend(0, 1, 0, 0, true);
        x.load(1);
        x.depend(1, 2, 0, 0, false);
        check.due(2, "state(2)", () -> x.state(2));
        check.due(2, "load(0): 2 is come to over 1, which is loaded", () -> x.load(0));
        check.due(3, "state(2)", () -> x.state(2));
    }
}
