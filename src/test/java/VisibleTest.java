/** Promise 9, the EXPORTED and the VISIBLE row. */
public final class VisibleTest {
    public static void main(String[] args) {
        Check check = new Check("VisibleTest");
        wrongNumbers(check);
        filters(check);
        order(check);
        circle(check);
        ownRowCountsAsNotBegun(check);
        onceInAll(check);
        onlyLoadedOnes(check);
        allEight(check);
        check.end();
    }

    private static void row(Check check, FlatLoader x, int m, int path, int... due) {
        for (int i = 0; i < 9; i++) {
            String call = "visible(" + m + ", " + path + ", " + i + ")";
            check.same(i < due.length ? due[i] : -1, call, x.visible(m, path, i));
        }
    }

    private static void wrongNumbers(Check check) {
        FlatLoader x = Setup.withPresent(0, 1);
        for (int path = 0; path < 6; path++) {
            x.file(0, 4 * path + 3, -2);
        }
        Setup.own(x, 0, 1);
        row(check, x, 0, 0);
        x.load(0);
        for (int path = 0; path < 6; path++) {
            row(check, x, 0, path, 0);
        }
        for (int wrong : new int[] {-1, Integer.MIN_VALUE, Integer.MAX_VALUE}) {
            check.due(-1, "visible(" + wrong + ", 0, 0)", () -> x.visible(wrong, 0, 0));
            check.due(-1, "visible(0, " + wrong + ", 0)", () -> x.visible(0, wrong, 0));
            check.due(-1, "visible(0, 0, " + wrong + ")", () -> x.visible(0, 0, wrong));
        }
        check.due(-1, "visible(1, 0, 0): not loaded", () -> x.visible(1, 0, 0));
        check.due(-1, "visible(2, 0, 0): not present", () -> x.visible(2, 0, 0));
        check.due(-1, "visible(8, 0, 0)", () -> x.visible(8, 0, 0));
        check.due(-1, "visible(32, 0, 0)", () -> x.visible(32, 0, 0));
        check.due(-1, "visible(0, 6, 0)", () -> x.visible(0, 6, 0));
        check.due(-1, "visible(0, 0, 8)", () -> x.visible(0, 0, 8));
    }

    /** 0 sees 1 by its imports alone; what 1 passes on from 2 is in both of 1's sets. */
    private static void filters(Check check) {
        FlatLoader x = Setup.withPresent(0, 1, 2);
        for (int path = 1; path < 6; path++) {
            x.file(1, 4 * path, -1);
            x.file(2, 4 * path, -1);
        }
        Setup.own(x, 1, 2);
        x.depend(0, 1, Setup.paths(1, 2, 3, 4), 0, true);
        x.depend(1, 2, Setup.paths(1, 2, 5), Setup.paths(1, 3, 5), true);
        x.load(0);
        row(check, x, 0, 0);
        row(check, x, 0, 1, 1, 2);
        row(check, x, 0, 2, 1);
        row(check, x, 0, 3, 1);
        row(check, x, 0, 4, 1);
        row(check, x, 0, 5);
        row(check, x, 1, 1, 1, 2);
        row(check, x, 1, 2, 1, 2);
        row(check, x, 1, 3, 1);
        row(check, x, 1, 5, 1, 2);
    }

    private static void order(Check check) {
        FlatLoader x = Setup.withPresent(0, 1, 2, 3);
        for (int m = 0; m < 4; m++) {
            x.file(m, 4, -1);
        }
        x.file(3, 8, -1);
        x.depend(0, 3, Setup.ALL, 0, true);
        Setup.own(x, 0);
        x.depend(0, 1, Setup.ALL, 0, true);
        Setup.own(x, 0);
        x.depend(1, 2, Setup.ALL, Setup.ALL, true);
        Setup.own(x, 1, 2, 3);
        x.load(0);
        row(check, x, 0, 1, 3, 0, 2, 1);
        row(check, x, 0, 2, 3);
        x.relink(3);
        row(check, x, 0, 1, 0, 2, 1);
        row(check, x, 3, 1);
    }

    private static void circle(Check check) {
        FlatLoader x = Setup.withPresent(3, 4, 5);
        for (int m = 3; m < 6; m++) {
            x.file(m, 4, -1);
            x.depend(m, m == 5 ? 3 : m + 1, Setup.ALL, Setup.ALL, true);
        }
        Setup.own(x, 3, 4, 5);
        x.load(3);
        row(check, x, 3, 1, 3, 5, 4);
        row(check, x, 4, 1, 4, 3, 5);
        row(check, x, 5, 1, 5, 4, 3);
    }

    /** 0 has no OWN before it comes back to itself: its exported row is gone through, and 2 comes by it. */
    private static void ownRowCountsAsNotBegun(Check check) {
        FlatLoader x = Setup.withPresent(0, 1, 2);
        x.file(0, 4, -1);
        x.file(1, 4, -1);
        x.file(2, 4, -1);
        x.depend(0, 1, Setup.ALL, 0, true);
        x.depend(0, 2, Setup.ALL, Setup.ALL, true);
        Setup.own(x, 0);
        x.depend(1, 0, Setup.ALL, Setup.ALL, true);
        Setup.own(x, 1, 2);
        x.load(0);
        row(check, x, 0, 1, 2, 0, 1);
        row(check, x, 1, 1, 2, 0, 1);
        row(check, x, 2, 1, 2);
    }

    /** 3 is come to over 1 and over 2, and directly: once, at its first place. */
    private static void onceInAll(Check check) {
        FlatLoader x = Setup.withPresent(0, 1, 2, 3);
        for (int m = 0; m < 4; m++) {
            x.file(m, 23, -1);
        }
        x.depend(1, 3, Setup.ALL, Setup.ALL, true);
        x.depend(2, 3, Setup.ALL, Setup.ALL, true);
        Setup.own(x, 0, 0, 1, 2, 3, 3);
        x.depend(0, 1, Setup.ALL, 0, true);
        x.depend(0, 2, Setup.ALL, 0, true);
        x.depend(0, 3, Setup.ALL, 0, true);
        x.depend(0, 1, Setup.ALL, 0, true);
        x.load(0);
        row(check, x, 0, 5, 0, 3, 1, 2);
        twiceWithOtherFilters(check);
    }

    /** A dependency that lets nothing through does not begin a row, so a later one still can. */
    private static void twiceWithOtherFilters(Check check) {
        FlatLoader x = Setup.withPresent(0, 1, 2);
        x.file(1, 4, -1);
        x.file(2, 4, -1);
        Setup.own(x, 1, 2);
        x.depend(0, 1, Setup.paths(2), 0, true);
        x.depend(0, 2, Setup.ALL, 0, true);
        x.depend(0, 1, Setup.paths(1), 0, true);
        x.load(0);
        row(check, x, 0, 1, 2, 1);
        row(check, x, 0, 2);
    }

    private static void onlyLoadedOnes(Check check) {
        FlatLoader x = Setup.withPresent(0, 1, 2);
        for (int m = 0; m < 3; m++) {
            x.file(m, 4, -1);
            Setup.own(x, m);
        }
        x.depend(0, 1, Setup.ALL, 0, false);
        x.depend(1, 2, Setup.ALL, Setup.ALL, false);
        x.load(0);
        row(check, x, 0, 1, 0, 1, 2);
        x.unload(1);
        row(check, x, 0, 1, 0);
        row(check, x, 1, 1);
        row(check, x, 2, 1, 2);
        x.load(1);
        x.unload(2);
        row(check, x, 0, 1, 0, 1);
    }

    private static void allEight(Check check) {
        FlatLoader x = Setup.withPresent(0, 1, 2, 3, 4, 5, 6, 7);
        for (int m = 0; m < 8; m++) {
            x.file(m, 0, -1);
            Setup.own(x, m);
            x.depend(m, (m + 1) % 8, 1, 1, true);
            x.depend(m, (m + 7) % 8, 1, 1, true);
        }
        x.load(4);
        row(check, x, 0, 0, 0, 1, 2, 3, 4, 5, 6, 7);
        row(check, x, 5, 0, 5, 6, 7, 0, 1, 2, 3, 4);
    }
}
