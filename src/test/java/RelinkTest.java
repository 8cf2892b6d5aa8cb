/** Promise 5. */
public final class RelinkTest {
    public static void main(String[] args) {
        Check check = new Check("RelinkTest");
        FlatLoader x = Setup.withPresent(0, 1, 7);
        for (int m : new int[] {2, 6, 8, -1, 32, Integer.MAX_VALUE, Integer.MIN_VALUE}) {
            check.due(Check.ARGUMENT, "relink(" + m + ")", () -> x.relink(m));
        }
        check.due(0, "relink(0)", () -> x.relink(0));
        x.file(0, 4, -1);
        x.file(0, 5, 4);
        Setup.own(x, 0);
        x.depend(0, 1, Setup.ALL, Setup.ALL, true);
        x.depend(0, 2, Setup.ALL, Setup.ALL, true);
        x.depend(1, 0, Setup.ALL, Setup.ALL, true);
        check.due(1, "state(0): 2 is not present", () -> x.state(0));
        check.due(1, "state(1)", () -> x.state(1));
        check.due(3, "relink(0)", () -> x.relink(0));
        check.due(0, "relink(0) again", () -> x.relink(0));
        check.due(2, "state(0): requires nothing now", () -> x.state(0));
        check.due(2, "state(1)", () -> x.state(1));
        loadedModuleStaysLoaded(check, x);
        onlyTheNewOnesCount(check);
        check.end();
    }

    private static void loadedModuleStaysLoaded(Check check, FlatLoader x) {
        Setup.own(x, 0);
        check.due(2, "load(1): 1's dependency is still there", () -> x.load(1));
        check.due(0, "find(1, 5)", () -> x.find(1, 5));
        check.due(1, "relink(0)", () -> x.relink(0));
        check.due(3, "state(0)", () -> x.state(0));
        check.due(-1, "visible(0, 1, 0)", () -> x.visible(0, 1, 0));
        check.due(-1, "visible(1, 1, 0)", () -> x.visible(1, 1, 0));
        check.due(2, "defined(): classes stay", x::defined);
        check.due(0, "above(0, 5)", () -> x.above(0, 5));
        check.due(Check.STATE, "unload(0): required by 1", () -> x.unload(0));
        check.due(1, "relink(1)", () -> x.relink(1));
        check.due(2, "unload(0): no longer required", () -> x.unload(0));
    }

    private static void onlyTheNewOnesCount(Check check) {
        FlatLoader x = Setup.withPresent(0, 1, 2);
        x.depend(0, 1, Setup.ALL, Setup.ALL, true);
        x.relink(0);
        x.depend(0, 2, Setup.ALL, Setup.ALL, false);
        check.due(2, "load(0): 1 is not come to", () -> x.load(0));
        check.due(2, "state(1)", () -> x.state(1));
        check.due(1, "load(1)", () -> x.load(1));
        check.due(0, "unload(1): not required", () -> x.unload(1));
        check.due(1, "relink(0)", () -> x.relink(0));
    }
}
