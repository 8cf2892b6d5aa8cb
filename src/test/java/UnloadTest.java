/** Promise 7. */
public final class UnloadTest {
    public static void main(String[] args) {
        Check check = new Check("UnloadTest");
        wrongModules(check);
        required(check);
        extended(check);
        classesAreGone(check);
        check.end();
    }

    private static void wrongModules(Check check) {
        FlatLoader x = Setup.withPresent(0, 1);
        for (int m : new int[] {0, 1, 2, 8, -1, 32, Integer.MAX_VALUE, Integer.MIN_VALUE}) {
            check.due(Check.ARGUMENT, "unload(" + m + ")", () -> x.unload(m));
        }
        x.load(0);
        check.due(0, "unload(0)", () -> x.unload(0));
        check.due(Check.ARGUMENT, "unload(0) again", () -> x.unload(0));
        check.due(2, "state(0)", () -> x.state(0));
    }

    private static void required(Check check) {
        FlatLoader x = Setup.withPresent(0, 1, 2, 3);
        x.depend(0, 1, 0, 0, true);
        x.depend(0, Setup.OWN, 0, 0, true);
        x.depend(2, 1, 0, 0, false);
        x.depend(3, 1, 0, 0, true);
        Setup.load(x, 0, 2);
        check.due(Check.STATE, "unload(1): required by 0", () -> x.unload(1));
        check.due(3, "state(1): still loaded", () -> x.state(1));
        check.due(0, "unload(0): its own OWN does not hinder", () -> x.unload(0));
        check.due(0, "unload(1): 2 does not require it, 3 and 0 are not loaded", () -> x.unload(1));
        check.due(3, "state(2)", () -> x.state(2));
        FlatLoader circle = Setup.withPresent(4, 5);
        circle.depend(4, 5, 0, 0, true);
        circle.depend(5, 4, 0, 0, true);
        circle.load(4);
        check.due(Check.STATE, "unload(4) in a circle", () -> circle.unload(4));
        check.due(Check.STATE, "unload(5) in a circle", () -> circle.unload(5));
        circle.relink(4);
        check.due(Check.STATE, "unload(4): 5 requires it", () -> circle.unload(4));
        check.due(0, "unload(5)", () -> circle.unload(5));
        check.due(0, "unload(4)", () -> circle.unload(4));
    }

    private static void extended(Check check) {
        FlatLoader x = Setup.withPresent(0, 1, 2);
        x.file(0, 4, 8);
        x.file(1, 8, 12);
        x.file(2, 12, 13);
        x.file(2, 13, 0);
        x.file(2, 14, 4);
        Setup.own(x, 0, 1, 2);
        x.depend(0, 1, Setup.ALL, 0, false);
        x.depend(1, 2, Setup.ALL, 0, false);
        x.load(0);
        check.due(0, "find(0, 4)", () -> x.find(0, 4));
        check.due(4, "defined()", x::defined);
        check.due(Check.STATE, "unload(2): 1 extends it", () -> x.unload(2));
        check.due(Check.STATE, "unload(1): 0 extends it", () -> x.unload(1));
        x.relink(0);
        x.relink(1);
        check.due(Check.STATE, "unload(1): still extended without the dependency", () -> x.unload(1));
        check.due(4, "defined(): what threw took none", x::defined);
        check.due(1, "unload(0)", () -> x.unload(0));
        check.due(Check.STATE, "unload(2): 1 still extends it", () -> x.unload(2));
        check.due(1, "unload(1)", () -> x.unload(1));
        check.due(2, "unload(2): its own class extends one of its", () -> x.unload(2));
        check.due(0, "defined()", x::defined);
    }

    private static void classesAreGone(Check check) {
        FlatLoader x = Setup.withPresent(0, 1);
        x.file(0, 4, -1);
        x.file(0, 9, 4);
        x.file(0, 10, 0);
        x.file(0, 23, -1);
        x.file(1, 6, 5);
        Setup.own(x, 0, 1);
        x.depend(1, 0, Setup.ALL, 0, false);
        x.load(1);
        check.due(0, "find(1, 9)", () -> x.find(1, 9));
        check.due(0, "find(1, 10)", () -> x.find(1, 10));
        check.due(0, "find(1, 23)", () -> x.find(1, 23));
        check.due(4, "unload(0)", () -> x.unload(0));
        check.due(-1, "above(0, 9)", () -> x.above(0, 9));
        check.due(0, "defined()", x::defined);
        check.due(-1, "visible(1, 2, 0): no longer seen", () -> x.visible(1, 2, 0));
        check.due(Check.NO_ELEMENT, "find(1, 9)", () -> x.find(1, 9));
        x.file(0, 5, -1);
        check.due(1, "load(0)", () -> x.load(0));
        check.due(-1, "above(0, 9): loading defines nothing", () -> x.above(0, 9));
        check.due(1, "find(1, 6): the new file is seen", () -> x.find(1, 6));
        check.due(Check.STATE, "unload(0)", () -> x.unload(0));
        check.due(1, "unload(1)", () -> x.unload(1));
        check.due(1, "unload(0)", () -> x.unload(0));
    }
}
