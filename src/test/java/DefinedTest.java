/** Promise 13. */
public final class DefinedTest {
    public static void main(String[] args) {
        Check check = new Check("DefinedTest");
        FlatLoader x = Setup.withPresent(0, 7);
        x.file(0, 4, 5);
        x.file(0, 5, 0);
        x.file(0, 6, -2);
        x.file(7, 5, -1);
        Setup.own(x, 0, 7);
        check.due(0, "defined()", x::defined);
        Setup.load(x, 0, 7);
        check.due(0, "defined(): loading defines nothing", x::defined);
        x.find(0, 0);
        x.find(0, 1);
        check.due(0, "defined(): the platform's do not count", x::defined);
        x.find(0, 5);
        check.due(1, "defined()", x::defined);
        x.find(0, 4);
        check.due(2, "defined(): the one that it extends was defined", x::defined);
        x.find(7, 5);
        check.due(3, "defined(): the same name in another module", x::defined);
        check.due(Check.STATE, "find(0, 6)", () -> x.find(0, 6));
        check.due(Check.NO_ELEMENT, "find(0, 7)", () -> x.find(0, 7));
        check.due(3, "defined()", x::defined);
        x.unload(0);
        check.due(1, "defined()", x::defined);
        x.unload(7);
        check.due(0, "defined()", x::defined);
        check.end();
    }
}
