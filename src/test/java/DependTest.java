/** Promise 4. */
public final class DependTest {
    public static void main(String[] args) {
        Check check = new Check("DependTest");
        wrongNumbers(check);
        atMostSix(check);
        ofLoadedModules(check);
        check.end();
    }

    private static void wrongNumbers(Check check) {
        FlatLoader x = Setup.withPresent(0, 1);
        for (int m : new int[] {2, 7, 8, -1, 32, Integer.MAX_VALUE, Integer.MIN_VALUE}) {
            check.due(Check.ARGUMENT, "depend(" + m + ", 1, 0, 0, false)", () -> x.depend(m, 1, 0, 0, false));
            check.due(Check.ARGUMENT, "depend(" + m + ", -1, 0, 0, true)", () -> x.depend(m, -1, 0, 0, true));
        }
        for (int on : new int[] {0, 8, -2, Integer.MAX_VALUE, Integer.MIN_VALUE}) {
            check.due(Check.ARGUMENT, "depend(0, " + on + ", 0, 0, false)", () -> x.depend(0, on, 0, 0, false));
        }
        for (int set : new int[] {-1, 64, 127, Integer.MAX_VALUE, Integer.MIN_VALUE}) {
            check.due(Check.ARGUMENT, "imports " + set, () -> x.depend(0, 1, set, 0, false));
            check.due(Check.ARGUMENT, "exports " + set, () -> x.depend(0, 1, 0, set, false));
            check.due(Check.ARGUMENT, "imports of OWN " + set, () -> x.depend(0, -1, set, 0, false));
            check.due(Check.ARGUMENT, "exports of OWN " + set, () -> x.depend(0, -1, 0, set, false));
        }
        check.due(0, "relink(0): what threw left no dependency", () -> x.relink(0));
        check.due(1, "depend(0, -1, 63, 63, true)", () -> x.depend(0, -1, 63, 63, true));
        check.due(2, "depend(0, 7, 63, 63, true): a module that is not present", () -> x.depend(0, 7, 63, 63, true));
        check.due(1, "depend(1, 0, 0, 0, false): counts are each module's own", () -> x.depend(1, 0, 0, 0, false));
    }

    private static void atMostSix(Check check) {
        FlatLoader x = Setup.withPresent(3);
        int[] on = {-1, 4, 4, -1, 0, 7};
        for (int i = 0; i < 6; i++) {
            int one = on[i];
            check.due(i + 1, "dependency " + i, () -> x.depend(3, one, 0, 63, false));
        }
        check.due(Check.STATE, "a seventh", () -> x.depend(3, 5, 0, 0, false));
        check.due(Check.STATE, "a seventh, OWN", () -> x.depend(3, -1, 0, 0, false));
        check.due(Check.ARGUMENT, "a seventh on itself: the argument counts first", () -> x.depend(3, 3, 0, 0, false));
        check.due(Check.ARGUMENT, "a seventh with no set of paths", () -> x.depend(3, 5, 64, 0, false));
        check.due(6, "relink(3)", () -> x.relink(3));
        check.due(1, "depend(3, 5, 0, 0, false)", () -> x.depend(3, 5, 0, 0, false));
    }

    private static void ofLoadedModules(Check check) {
        FlatLoader x = Setup.withPresent(0, 1, 2);
        x.file(1, 4, -1);
        Setup.own(x, 1);
        Setup.load(x, 0, 1);
        check.due(Check.STATE, "depend(0, 2, 0, 0, true): 2 is loadable, not loaded", () -> x.depend(0, 2, 0, 0, true));
        check.due(Check.STATE, "depend(0, 3, 0, 0, true): 3 is not present", () -> x.depend(0, 3, 0, 0, true));
        check.due(Check.ARGUMENT, "depend(0, 3, 64, 0, true)", () -> x.depend(0, 3, 64, 0, true));
        check.due(3, "state(0)", () -> x.state(0));
        check.due(1, "depend(0, 1, 2, 0, true): 1 is loaded", () -> x.depend(0, 1, 2, 0, true));
        check.due(2, "depend(0, 3, 2, 0, false): not required", () -> x.depend(0, 3, 2, 0, false));
        check.due(3, "depend(0, -1, 0, 0, true): OWN", () -> x.depend(0, -1, 0, 0, true));
        check.due(1, "visible(0, 1, 0): seen at once", () -> x.visible(0, 1, 0));
        check.due(Check.STATE, "unload(1): now required", () -> x.unload(1));
        check.due(1, "depend(2, 3, 0, 0, true): 2 is not loaded", () -> x.depend(2, 3, 0, 0, true));
        check.due(1, "state(2): not loadable now", () -> x.state(2));
    }
}
