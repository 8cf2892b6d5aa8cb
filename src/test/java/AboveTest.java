/** Promise 12. */
public final class AboveTest {
    public static void main(String[] args) {
        Check check = new Check("AboveTest");
        FlatLoader x = Setup.withPresent(0, 1, 2);
        x.file(0, 4, 8);
        x.file(0, 5, 4);
        x.file(0, 6, 1);
        x.file(0, 23, -1);
        x.file(1, 8, -1);
        x.file(2, 4, -1);
        Setup.own(x, 0, 1, 2);
        x.depend(0, 1, Setup.ALL, 0, true);
        Setup.load(x, 0, 2);
        wrongNumbers(check, x);
        check.due(-1, "above(0, 5): not defined", () -> x.above(0, 5));
        x.find(0, 5);
        check.due(0, "above(0, 5): the same module", () -> x.above(0, 5));
        check.due(1, "above(0, 4): another module", () -> x.above(0, 4));
        check.due(9, "above(1, 8): nothing", () -> x.above(1, 8));
        check.due(-1, "above(0, 8): defined by 1, not by 0", () -> x.above(0, 8));
        check.due(-1, "above(2, 4): held, not defined", () -> x.above(2, 4));
        x.find(0, 6);
        check.due(8, "above(0, 6): the platform", () -> x.above(0, 6));
        check.due(-1, "above(0, 23)", () -> x.above(0, 23));
        x.find(0, 23);
        check.due(9, "above(0, 23)", () -> x.above(0, 23));
        check.due(-1, "above(0, 0): the platform's is defined by no module", () -> x.above(0, 0));
        wrongNumbers(check, x);
        x.relink(0);
        check.due(1, "above(0, 4): stays as it was defined", () -> x.above(0, 4));
        x.unload(0);
        check.due(-1, "above(0, 4): gone", () -> x.above(0, 4));
        check.due(9, "above(1, 8)", () -> x.above(1, 8));
        check.end();
    }

    private static void wrongNumbers(Check check, FlatLoader x) {
        for (int wrong : new int[] {-1, 24, 8 * 24, Integer.MIN_VALUE, Integer.MAX_VALUE}) {
            check.due(-1, "above(" + wrong + ", 4)", () -> x.above(wrong, 4));
            check.due(-1, "above(0, " + wrong + ")", () -> x.above(0, wrong));
        }
        check.due(-1, "above(8, 0): the platform is no module", () -> x.above(8, 0));
        check.due(-1, "above(3, 4): not present", () -> x.above(3, 4));
    }
}
