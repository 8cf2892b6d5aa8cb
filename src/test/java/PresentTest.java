/** Promise 2. */
public final class PresentTest {
    public static void main(String[] args) {
        Check check = new Check("PresentTest");
        FlatLoader x = new FlatLoader();
        for (int wrong : new int[] {-1, 8, 9, 32, -8, Integer.MIN_VALUE, Integer.MAX_VALUE}) {
            check.thrown(Check.ARGUMENT, "present(" + wrong + ")", () -> x.present(wrong));
        }
        for (int m = 7; m >= 0; m--) {
            int module = m;
            check.due(0, "state before present(" + m + ")", () -> x.state(module));
            check.done("present(" + m + ")", () -> x.present(module));
            check.due(2, "state after present(" + m + ")", () -> x.state(module));
            check.thrown(Check.STATE, "present(" + m + ") again", () -> x.present(module));
            check.due(2, "state after a second present(" + m + ")", () -> x.state(module));
            check.due(0, "relink: a present module has no dependencies", () -> x.relink(module));
        }
        x.file(3, 4, -1);
        x.depend(3, -1, 0, 0, true);
        check.thrown(Check.STATE, "present(3) again", () -> x.present(3));
        check.thrown(Check.STATE, "file(3, 4, -1): its files are still there", () -> x.file(3, 4, -1));
        x.load(3);
        check.thrown(Check.STATE, "present(3) when loaded", () -> x.present(3));
        check.due(3, "state(3)", () -> x.state(3));
        check.due(3, "find(3, 4)", () -> x.find(3, 4));
        check.due(1, "relink(3): its dependency is still there", () -> x.relink(3));
        check.end();
    }
}
