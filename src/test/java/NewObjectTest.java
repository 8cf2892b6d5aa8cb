/** Promise 1. */
public final class NewObjectTest {
    public static void main(String[] args) {
        Check check = new Check("NewObjectTest");
        FlatLoader x = new FlatLoader();
        for (int m = 0; m < 8; m++) {
            int module = m;
            check.due(0, "state", () -> x.state(module));
            check.due(-1, "visible", () -> x.visible(module, 0, 0));
            check.due(1, "why", () -> x.why(module, 0));
            check.due(Check.ARGUMENT, "relink", () -> x.relink(module));
            check.due(Check.NO_ELEMENT, "load", () -> x.load(module));
            check.due(Check.ARGUMENT, "unload", () -> x.unload(module));
            check.due(Check.ARGUMENT, "find", () -> x.find(module, 0));
            for (int name = 0; name < 24; name++) {
                int of = name;
                check.due(-1, "above", () -> x.above(module, of));
            }
        }
        check.due(0, "defined()", x::defined);
        objectsDoNotShareState(check);
        check.end();
    }

    private static void objectsDoNotShareState(Check check) {
        FlatLoader x = Setup.withPresent(0);
        x.file(0, 4, -1);
        Setup.own(x, 0);
        x.load(0);
        x.find(0, 4);
        FlatLoader y = new FlatLoader();
        check.due(0, "state(0) of a second object", () -> y.state(0));
        check.due(0, "defined() of a second object", y::defined);
    }
}
