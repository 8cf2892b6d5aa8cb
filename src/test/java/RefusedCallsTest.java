import java.util.List;
import java.util.function.Consumer;
import java.util.function.ToIntFunction;

/** "A call that throws changes nothing.": two objects made alike, one of them with a refused call more. */
public final class RefusedCallsTest {
    private static final Check CHECK = new Check("RefusedCallsTest");

    /** What can be told of an object, in parts, so that none needs more calls than are promised. */
    private static final List<Consumer<Pair>> LOOKS = List.of(RefusedCallsTest::lookAtStatesAndClasses,
            RefusedCallsTest::lookAtRows, RefusedCallsTest::lookAtReasons, RefusedCallsTest::findAll,
            RefusedCallsTest::loadAndUnloadAll, RefusedCallsTest::addFiles, RefusedCallsTest::addDependencies);

    private record Pair(String refused, FlatLoader one, FlatLoader other) {
        void alike(String call, ToIntFunction<FlatLoader> look) {
            int due = Check.answerOf(() -> look.applyAsInt(other));
            CHECK.same(due, call + " after " + refused, Check.answerOf(() -> look.applyAsInt(one)));
        }
    }

    public static void main(String[] args) {
        present();
        file();
        depend();
        relink();
        load();
        unload();
        find();
        CHECK.end();
    }

    private static void refused(int due, String call, Consumer<FlatLoader> refused) {
        for (Consumer<Pair> look : LOOKS) {
            FlatLoader x = Setup.withEveryKind();
            CHECK.thrown(due, call, () -> refused.accept(x));
            look.accept(new Pair(call, x, Setup.withEveryKind()));
        }
    }

    private static void present() {
        refused(Check.ARGUMENT, "present(-1)", x -> x.present(-1));
        refused(Check.ARGUMENT, "present(8)", x -> x.present(8));
        refused(Check.STATE, "present(0), loaded", x -> x.present(0));
        refused(Check.STATE, "present(5)", x -> x.present(5));
    }

    private static void file() {
        refused(Check.ARGUMENT, "file(6, 4, -1), not present", x -> x.file(6, 4, -1));
        refused(Check.ARGUMENT, "file(8, 4, -1)", x -> x.file(8, 4, -1));
        refused(Check.ARGUMENT, "file(5, -1, -1)", x -> x.file(5, -1, -1));
        refused(Check.ARGUMENT, "file(5, 24, -1)", x -> x.file(5, 24, -1));
        refused(Check.ARGUMENT, "file(5, 4, -3)", x -> x.file(5, 4, -3));
        refused(Check.ARGUMENT, "file(5, 4, 24)", x -> x.file(5, 4, 24));
        refused(Check.STATE, "file(0, 7, -1), loaded", x -> x.file(0, 7, -1));
        refused(Check.STATE, "file(5, 17, -2), held", x -> x.file(5, 17, -2));
    }

    private static void depend() {
        refused(Check.ARGUMENT, "depend(6, 0, ..), not present", x -> x.depend(6, 0, 63, 63, true));
        refused(Check.ARGUMENT, "depend(-1, 0, ..)", x -> x.depend(-1, 0, 63, 63, true));
        refused(Check.ARGUMENT, "depend(1, 1, ..)", x -> x.depend(1, 1, 63, 63, true));
        refused(Check.ARGUMENT, "depend(1, -2, ..)", x -> x.depend(1, -2, 63, 63, true));
        refused(Check.ARGUMENT, "depend(1, 8, ..)", x -> x.depend(1, 8, 63, 63, true));
        refused(Check.ARGUMENT, "depend(1, 4, 64, 63, ..)", x -> x.depend(1, 4, 64, 63, true));
        refused(Check.ARGUMENT, "depend(1, 4, 63, -1, ..)", x -> x.depend(1, 4, 63, -1, true));
        refused(Check.STATE, "a seventh on a loaded one", x -> x.depend(0, 1, 63, 63, true));
        refused(Check.STATE, "a seventh, OWN", x -> x.depend(0, Setup.OWN, 63, 63, true));
        refused(Check.STATE, "a loaded one requires one that is loadable", x -> x.depend(1, 5, 63, 63, true));
        refused(Check.STATE, "a loaded one requires one that is not present", x -> x.depend(1, 6, 63, 63, true));
    }

    private static void relink() {
        refused(Check.ARGUMENT, "relink(6), not present", x -> x.relink(6));
        refused(Check.ARGUMENT, "relink(8)", x -> x.relink(8));
        refused(Check.ARGUMENT, "relink(-1)", x -> x.relink(-1));
    }

    private static void load() {
        refused(Check.ARGUMENT, "load(8)", x -> x.load(8));
        refused(Check.ARGUMENT, "load(-1)", x -> x.load(-1));
        refused(Check.NO_ELEMENT, "load(6), not present", x -> x.load(6));
        refused(Check.NO_ELEMENT, "load(3), not loadable, though 5 behind it is", x -> x.load(3));
    }

    private static void unload() {
        refused(Check.ARGUMENT, "unload(8)", x -> x.unload(8));
        refused(Check.ARGUMENT, "unload(-1)", x -> x.unload(-1));
        refused(Check.ARGUMENT, "unload(5), not loaded", x -> x.unload(5));
        refused(Check.ARGUMENT, "unload(6), not present", x -> x.unload(6));
        refused(Check.STATE, "unload(1), extended", x -> x.unload(1));
        refused(Check.STATE, "unload(2), required", x -> x.unload(2));
    }

    private static void find() {
        refused(Check.ARGUMENT, "find(5, 17), not loaded", x -> x.find(5, 17));
        refused(Check.ARGUMENT, "find(8, 4)", x -> x.find(8, 4));
        refused(Check.ARGUMENT, "find(0, -1)", x -> x.find(0, -1));
        refused(Check.ARGUMENT, "find(0, 24)", x -> x.find(0, 24));
        refused(Check.NO_ELEMENT, "find(0, 22)", x -> x.find(0, 22));
        refused(Check.STATE, "find(0, 5), broken", x -> x.find(0, 5));
        refused(Check.STATE, "find(0, 6), extends one that is not found", x -> x.find(0, 6));
        refused(Check.STATE, "find(1, 12), a circle", x -> x.find(1, 12));
        refused(Check.STATE, "find(4, 10), eleven", x -> x.find(4, 10));
    }

    private static void lookAtStatesAndClasses(Pair pair) {
        pair.alike("defined()", FlatLoader::defined);
        for (int m = 0; m < 8; m++) {
            int module = m;
            pair.alike("state(" + m + ")", x -> x.state(module));
            for (int name = 0; name < 24; name++) {
                int of = name;
                pair.alike("above(" + m + ", " + name + ")", x -> x.above(module, of));
            }
        }
    }

    private static void lookAtRows(Pair pair) {
        for (int m = 0; m < 8; m++) {
            for (int path = 0; path < 6; path++) {
                for (int i = 0; i < 8; i++) {
                    int[] a = {m, path, i};
                    pair.alike("visible(" + m + ", " + path + ", " + i + ")", x -> x.visible(a[0], a[1], a[2]));
                }
            }
        }
    }

    private static void lookAtReasons(Pair pair) {
        for (int m = 0; m < 8; m++) {
            for (int name = 0; name < 24; name++) {
                int[] a = {m, name};
                pair.alike("why(" + m + ", " + name + ")", x -> x.why(a[0], a[1]));
            }
        }
    }

    private static void findAll(Pair pair) {
        for (int m = 0; m < 8; m++) {
            for (int name = 0; name < 24; name++) {
                int[] a = {m, name};
                pair.alike("find(" + m + ", " + name + ")", x -> x.find(a[0], a[1]));
            }
        }
        pair.alike("defined() after finding all", FlatLoader::defined);
    }

    private static void loadAndUnloadAll(Pair pair) {
        for (int m = 0; m < 8; m++) {
            int module = m;
            pair.alike("load(" + m + ")", x -> x.load(module));
        }
        for (int round = 0; round < 3; round++) {
            for (int m = 0; m < 8; m++) {
                int module = m;
                pair.alike("unload(" + m + ")", x -> x.unload(module));
            }
        }
        for (int m = 0; m < 8; m++) {
            int module = m;
            pair.alike("relink(" + m + ")", x -> x.relink(module));
        }
    }

    private static void addFiles(Pair pair) {
        for (int m = 0; m < 8; m++) {
            for (int name = 0; name < 24; name++) {
                int[] a = {m, name};
                pair.alike("file(" + m + ", " + name + ", -1)", x -> {
                    x.file(a[0], a[1], -1);
                    return Check.DONE;
                });
            }
        }
    }

    private static void addDependencies(Pair pair) {
        for (int m = 0; m < 8; m++) {
            for (int round = 0; round < 7; round++) {
                int module = m;
                pair.alike("depend(" + m + ", -1, ..)", x -> x.depend(module, Setup.OWN, 0, 0, false));
            }
        }
    }
}
