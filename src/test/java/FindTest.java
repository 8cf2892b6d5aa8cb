/** Promise 8, TO FIND and TO DEFINE. */
public final class FindTest {
    public static void main(String[] args) {
        Check check = new Check("FindTest");
        wrongNumbers(check);
        platform(check);
        firstOfTheRow(check);
        foundWhereItIsHeld(check);
        definedOnce(check);
        cannotBeDefined(check);
        atMostTenAtOnce(check);
        tenAtOnceOverModules(check);
        check.end();
    }

    private static void wrongNumbers(Check check) {
        FlatLoader x = Setup.withPresent(0, 1);
        x.file(0, 4, -1);
        Setup.own(x, 0, 1);
        x.load(0);
        for (int m : new int[] {1, 2, 8, -1, 32, Integer.MAX_VALUE, Integer.MIN_VALUE}) {
            check.due(Check.ARGUMENT, "find(" + m + ", 4)", () -> x.find(m, 4));
            check.due(Check.ARGUMENT, "find(" + m + ", 0)", () -> x.find(m, 0));
        }
        for (int name : new int[] {-1, -2, 24, Integer.MAX_VALUE, Integer.MIN_VALUE}) {
            check.due(Check.ARGUMENT, "find(0, " + name + ")", () -> x.find(0, name));
        }
        check.due(0, "defined()", x::defined);
    }

    private static void platform(Check check) {
        FlatLoader x = Setup.withPresent(0);
        for (int name = 0; name < 4; name++) {
            x.file(0, name, -2);
        }
        x.load(0);
        check.due(8, "find(0, 0): without any dependency", () -> x.find(0, 0));
        check.due(8, "find(0, 1)", () -> x.find(0, 1));
        check.due(Check.NO_ELEMENT, "find(0, 2): held, but not by the platform, and not seen", () -> x.find(0, 2));
        Setup.own(x, 0);
        check.due(8, "find(0, 1): before the module's own", () -> x.find(0, 1));
        check.due(Check.STATE, "find(0, 2)", () -> x.find(0, 2));
        check.due(Check.STATE, "find(0, 3)", () -> x.find(0, 3));
        check.due(Check.NO_ELEMENT, "find(0, 4): a name of another path with the number 0", () -> x.find(0, 4));
        check.due(0, "defined(): the platform's do not count", x::defined);
    }

    private static void firstOfTheRow(Check check) {
        FlatLoader x = Setup.withPresent(0, 1, 2);
        x.file(0, 5, -1);
        x.file(1, 4, -1);
        x.file(1, 6, -2);
        x.file(2, 4, -1);
        x.file(2, 5, -1);
        x.file(2, 6, -1);
        x.file(2, 7, -1);
        Setup.own(x, 1, 2);
        x.depend(0, 1, Setup.ALL, 0, true);
        Setup.own(x, 0);
        x.depend(0, 2, Setup.ALL, 0, true);
        x.load(0);
        check.due(1, "find(0, 4): 1 comes first", () -> x.find(0, 4));
        check.due(0, "find(0, 5): 0 before 2", () -> x.find(0, 5));
        check.due(Check.STATE, "find(0, 6): the first is broken, the later one does not count", () -> x.find(0, 6));
        check.due(2, "find(0, 7)", () -> x.find(0, 7));
        check.due(2, "find(2, 4): in 2 the same name means its own", () -> x.find(2, 4));
        check.due(4, "defined()", x::defined);
        check.due(Check.NO_ELEMENT, "find(0, 8)", () -> x.find(0, 8));
    }

    /** What a class extends is found in the module that holds it, not in the one that asked. */
    private static void foundWhereItIsHeld(Check check) {
        FlatLoader x = Setup.withPresent(0, 1, 2);
        x.file(0, 8, -1);
        x.file(1, 4, 8);
        x.file(1, 5, 12);
        x.file(2, 8, -1);
        x.file(0, 12, -1);
        Setup.own(x, 0, 1, 2);
        x.depend(0, 1, Setup.ALL, 0, true);
        x.depend(1, 2, Setup.ALL, 0, true);
        x.load(0);
        check.due(1, "find(0, 4)", () -> x.find(0, 4));
        check.due(2, "above(1, 4): 2's, though 0 sees its own", () -> x.above(1, 4));
        check.due(-1, "above(0, 8): 0's is not defined", () -> x.above(0, 8));
        check.due(Check.STATE, "find(0, 5): 12 is found in 0, but not in 1", () -> x.find(0, 5));
        check.due(-1, "above(1, 5)", () -> x.above(1, 5));
        check.due(2, "defined()", x::defined);
    }

    private static void definedOnce(Check check) {
        FlatLoader x = Setup.withPresent(0, 1, 2);
        x.file(0, 4, 8);
        x.file(1, 8, -1);
        x.file(2, 8, -1);
        Setup.own(x, 0, 1, 2);
        x.depend(0, 1, Setup.ALL, 0, true);
        Setup.load(x, 0, 2);
        check.due(0, "find(0, 4)", () -> x.find(0, 4));
        check.due(0, "find(0, 4) again", () -> x.find(0, 4));
        check.due(2, "defined()", x::defined);
        x.relink(0);
        x.depend(0, 2, Setup.ALL, 0, true);
        Setup.own(x, 0);
        check.due(0, "find(0, 4): now 2's 8 is seen", () -> x.find(0, 4));
        check.due(1, "above(0, 4): defined already", () -> x.above(0, 4));
        x.relink(0);
        Setup.own(x, 0);
        check.due(0, "find(0, 4): defined, though 8 is no longer found", () -> x.find(0, 4));
        check.due(2, "defined()", x::defined);
    }

    private static void cannotBeDefined(Check check) {
        FlatLoader x = Setup.withPresent(0, 1);
        x.file(0, 4, 5);
        x.file(0, 5, 6);
        x.file(0, 6, -2);
        x.file(0, 8, 9);
        x.file(0, 9, 20);
        x.file(0, 12, 13);
        x.file(0, 13, 14);
        x.file(0, 14, 13);
        x.file(0, 16, 16);
        x.file(0, 17, 1);
        Setup.own(x, 0);
        x.load(0);
        check.due(Check.STATE, "find(0, 4): above all is a broken one", () -> x.find(0, 4));
        check.due(Check.STATE, "find(0, 8): 20 is not found", () -> x.find(0, 8));
        check.due(Check.STATE, "find(0, 12): a circle", () -> x.find(0, 12));
        check.due(Check.STATE, "find(0, 16): a circle of one", () -> x.find(0, 16));
        check.due(0, "defined(): what threw defined nothing", x::defined);
        check.due(0, "find(0, 17)", () -> x.find(0, 17));
        for (int name = 0; name < 24; name++) {
            check.same(name == 17 ? 8 : -1, "above(0, " + name + ")", x.above(0, name));
        }
    }

    private static void atMostTenAtOnce(Check check) {
        FlatLoader ten = Setup.withChain(4, 13, -1);
        check.due(0, "find(0, 4): ten, above them nothing", () -> ten.find(0, 4));
        check.due(10, "defined()", ten::defined);
        FlatLoader tenOnPlatform = Setup.withChain(4, 13, 1);
        check.due(0, "find(0, 4): ten, above them the platform", () -> tenOnPlatform.find(0, 4));
        check.due(8, "above(0, 13)", () -> tenOnPlatform.above(0, 13));
        FlatLoader eleven = Setup.withChain(4, 14, -1);
        check.due(Check.STATE, "find(0, 4): eleven", () -> eleven.find(0, 4));
        check.due(0, "defined()", eleven::defined);
        check.due(0, "find(0, 14)", () -> eleven.find(0, 14));
        check.due(0, "find(0, 4): ten, above them one that is defined", () -> eleven.find(0, 4));
        check.due(11, "defined()", eleven::defined);
        FlatLoader brokenEleventh = Setup.withChain(4, 14, -2);
        check.due(Check.STATE, "find(0, 4): the eleventh is broken", () -> brokenEleventh.find(0, 4));
        FlatLoader long22 = Setup.withChain(2, 23, 0);
        check.due(Check.STATE, "find(0, 2): twenty-two", () -> long22.find(0, 2));
        check.due(0, "find(0, 14): ten", () -> long22.find(0, 14));
        check.due(Check.STATE, "find(0, 3): eleven more", () -> long22.find(0, 3));
        check.due(0, "find(0, 4): ten more", () -> long22.find(0, 4));
        check.due(0, "find(0, 2)", () -> long22.find(0, 2));
        check.due(22, "defined()", long22::defined);
    }

    private static void tenAtOnceOverModules(Check check) {
        FlatLoader x = Setup.withPresent(0, 1);
        for (int name = 4; name < 14; name++) {
            x.file(name % 2, name, name + 1);
        }
        x.file(0, 14, -1);
        x.depend(0, 1, Setup.ALL, 0, false);
        x.depend(1, 0, Setup.ALL, 0, false);
        Setup.own(x, 0, 1);
        x.load(0);
        check.due(Check.STATE, "find(0, 4): eleven in two modules", () -> x.find(0, 4));
        check.due(1, "find(0, 5): ten in two modules", () -> x.find(0, 5));
        check.due(10, "defined()", x::defined);
        check.due(0, "above(1, 5)", () -> x.above(1, 5));
        check.due(1, "above(0, 6)", () -> x.above(0, 6));
        check.due(9, "above(0, 14)", () -> x.above(0, 14));
    }
}
