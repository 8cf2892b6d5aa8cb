/** What several tests begin with. */
final class Setup {
    static final int OWN = -1;
    static final int ALL = 63;

    private Setup() {
    }

    /** The set of the paths given. */
    static int paths(int... members) {
        int set = 0;
        for (int path : members) {
            set |= 1 << path;
        }
        return set;
    }

    static FlatLoader withPresent(int... modules) {
        FlatLoader x = new FlatLoader();
        for (int m : modules) {
            x.present(m);
        }
        return x;
    }

    static void own(FlatLoader x, int... modules) {
        for (int m : modules) {
            x.depend(m, OWN, 0, 0, false);
        }
    }

    static void load(FlatLoader x, int... modules) {
        for (int m : modules) {
            x.load(m);
        }
    }

    /** A module that sees its own classes from first to last, each of which extends the next. */
    static FlatLoader withChain(int first, int last, int lastExtends) {
        FlatLoader x = withPresent(0);
        for (int name = first; name < last; name++) {
            x.file(0, name, name + 1);
        }
        x.file(0, last, lastExtends);
        own(x, 0);
        x.load(0);
        return x;
    }
}
