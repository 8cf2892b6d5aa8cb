/** Promise 11. */
public final class StateTest {
    public static void main(String[] args) {
        Check check = new Check("StateTest");
        FlatLoader x = new FlatLoader();
        for (int wrong : new int[] {-1, 8, 9, 32, Integer.MIN_VALUE, Integer.MAX_VALUE}) {
            check.due(-1, "state(" + wrong + ")", () -> x.state(wrong));
        }
        check.due(0, "state(0)", () -> x.state(0));
        x.present(0);
        check.due(2, "state(0): requires nothing", () -> x.state(0));
        x.depend(0, Setup.OWN, 0, 0, true);
        check.due(2, "state(0): requires itself", () -> x.state(0));
        x.depend(0, 1, 0, 0, false);
        check.due(2, "state(0): 1 is not required", () -> x.state(0));
        x.depend(0, 1, 0, 0, true);
        check.due(1, "state(0): 1 is required", () -> x.state(0));
        check.due(0, "state(1)", () -> x.state(1));
        x.present(1);
        check.due(2, "state(0)", () -> x.state(0));
        x.depend(1, 0, 0, 0, true);
        check.due(2, "state(0): a circle", () -> x.state(0));
        check.due(2, "state(1): a circle", () -> x.state(1));
        x.depend(1, 2, 0, 0, true);
        check.due(1, "state(0): over 1 it requires 2", () -> x.state(0));
        x.present(2);
        x.load(1);
        for (int m = 0; m < 3; m++) {
            check.same(3, "state(" + m + "): loaded", x.state(m));
        }
        x.relink(1);
        x.unload(2);
        check.due(2, "state(2): unloaded", () -> x.state(2));
        check.due(3, "state(1)", () -> x.state(1));
        check.end();
    }
}
