/** Promise 3. */
public final class FileTest {
    public static void main(String[] args) {
        Check check = new Check("FileTest");
        wrongNumbers(check);
        wrongStates(check);
        everyName(check);
        whatIsExtended(check);
        ownName(check);
        check.end();
    }

    private static void wrongNumbers(Check check) {
        FlatLoader x = Setup.withPresent(0, 7);
        for (int m : new int[] {1, 6, 8, -1, 32, Integer.MAX_VALUE, Integer.MIN_VALUE}) {
            check.thrown(Check.ARGUMENT, "file(" + m + ", 4, -1)", () -> x.file(m, 4, -1));
        }
        for (int name : new int[] {-1, -2, 24, 25, Integer.MAX_VALUE, Integer.MIN_VALUE}) {
            check.thrown(Check.ARGUMENT, "file(0, " + name + ", -1)", () -> x.file(0, name, -1));
        }
        for (int extended : new int[] {-3, -4, 24, Integer.MAX_VALUE, Integer.MIN_VALUE}) {
            check.thrown(Check.ARGUMENT, "file(0, 4, " + extended + ")", () -> x.file(0, 4, extended));
        }
        check.done("file(0, 4, -1): what threw left no file", () -> x.file(0, 4, -1));
        check.done("file(7, 4, 5)", () -> x.file(7, 4, 5));
    }

    private static void wrongStates(Check check) {
        FlatLoader x = Setup.withPresent(0, 1);
        Setup.own(x, 0, 1);
        x.file(0, 4, -1);
        check.thrown(Check.STATE, "file(0, 4, -2): held already", () -> x.file(0, 4, -2));
        check.thrown(Check.ARGUMENT, "file(0, 4, 24): the argument counts first", () -> x.file(0, 4, 24));
        x.load(0);
        check.due(0, "find(0, 4): the second file was not taken", () -> x.find(0, 4));
        check.thrown(Check.STATE, "file(0, 5, -1): loaded", () -> x.file(0, 5, -1));
        check.thrown(Check.ARGUMENT, "file(0, 24, -1): the argument counts first", () -> x.file(0, 24, -1));
        check.due(4, "why(0, 5): what threw left no file", () -> x.why(0, 5));
        x.unload(0);
        check.done("file(0, 5, -1): no longer loaded", () -> x.file(0, 5, -1));
        check.thrown(Check.STATE, "file(0, 4, -1): files stay when unloaded", () -> x.file(0, 4, -1));
        check.done("file(1, 4, -1): another module may hold the name", () -> x.file(1, 4, -1));
    }

    private static void everyName(Check check) {
        FlatLoader x = Setup.withPresent(5);
        Setup.own(x, 5);
        for (int name = 0; name < 24; name++) {
            int of = name;
            check.done("file(5, " + name + ", -1)", () -> x.file(5, of, -1));
        }
        x.load(5);
        for (int name = 0; name < 24; name++) {
            int of = name;
            check.due(name < 2 ? 8 : 5, "find(5, " + name + ")", () -> x.find(5, of));
        }
        check.due(22, "defined()", x::defined);
    }

    private static void whatIsExtended(Check check) {
        FlatLoader x = Setup.withPresent(2);
        Setup.own(x, 2);
        x.file(2, 4, -1);
        x.file(2, 5, -2);
        x.file(2, 6, 0);
        x.file(2, 7, 23);
        x.file(2, 23, 4);
        x.load(2);
        check.due(2, "find(2, 4)", () -> x.find(2, 4));
        check.due(9, "above(2, 4): nothing", () -> x.above(2, 4));
        check.due(Check.STATE, "find(2, 5): broken", () -> x.find(2, 5));
        check.due(2, "find(2, 6)", () -> x.find(2, 6));
        check.due(8, "above(2, 6): the platform", () -> x.above(2, 6));
        check.due(2, "find(2, 7)", () -> x.find(2, 7));
        check.due(2, "above(2, 7)", () -> x.above(2, 7));
        check.due(4, "defined()", x::defined);
    }

    /** The document's range, 0 .. 23, does not leave out the file's own name: another module may have it too. */
    private static void ownName(Check check) {
        FlatLoader x = Setup.withPresent(0, 1, 2);
        check.done("file(0, 4, 4)", () -> x.file(0, 4, 4));
        x.file(1, 4, -1);
        x.depend(0, 1, Setup.ALL, Setup.ALL, true);
        Setup.own(x, 0, 1);
        x.depend(2, 0, Setup.ALL, 0, true);
        x.relink(0);
        Setup.own(x, 0);
        x.load(2);
        check.due(Check.STATE, "find(2, 4): comes back to itself", () -> x.find(2, 4));
        x.relink(0);
        x.load(1);
        x.depend(0, 1, Setup.paths(1), 0, true);
        x.depend(0, Setup.OWN, 0, 0, true);
        check.due(0, "find(2, 4): module 0 sees that of module 1 first", () -> x.find(2, 4));
        check.due(1, "above(0, 4)", () -> x.above(0, 4));
    }
}
