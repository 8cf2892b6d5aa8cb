/** What several tests begin with. */
final class Setup {
    static final int OWN = -1;
    static final int ALL = 63;

    private Setup() {
    }

    /** The set of the paths given. */
    static int paths(int... members) {
        int set = 0;
        for (int path : members) {
            set |= 1 << path;
        }
        return set;
    }

    static FlatLoader withPresent(int... modules) {
        FlatLoader x = new FlatLoader();
        for (int m : modules) {
            x.present(m);
        }
        return x;
    }

    static void own(FlatLoader x, int... modules) {
        for (int m : modules) {
            x.depend(m, OWN, 0, 0, false);
        }
    }

    static void load(FlatLoader x, int... modules) {
        for (int m : modules) {
            x.load(m);
        }
    }

    /** A module that sees its own classes from first to last, each of which extends the next. */
    static FlatLoader withChain(int first, int last, int lastExtends) {
        FlatLoader x = withPresent(0);
        for (int name = first; name < last; name++) {
            x.file(0, name, name + 1);
        }
        x.file(0, last, lastExtends);
        own(x, 0);
        x.load(0);
        return x;
    }

    /**
     * Something of each kind: 0 (with 6 dependencies), 1 (extended by 0), 2 (required by 0) and 4 (with a
     * chain of eleven) are loaded; 3 is not loadable, 5 is, 6 and 7 are not present.
     */
    static FlatLoader withEveryKind() {
        FlatLoader x = withPresent(0, 1, 2, 3, 4, 5);
        x.file(0, 4, 8);
        x.file(0, 5, -2);
        x.file(0, 6, 20);
        x.file(1, 8, 9);
        x.file(1, 9, -1);
        x.file(1, 12, 13);
        x.file(1, 13, 12);
        x.file(2, 16, 0);
        x.file(3, 17, -1);
        x.file(5, 17, -1);
        for (int name = 10; name < 20; name++) {
            x.file(4, name, name + 1);
        }
        x.file(4, 20, -1);
        own(x, 0, 1, 2, 3, 4, 5);
        x.depend(0, 1, ALL, ALL, false);
        x.depend(0, 2, ALL, ALL, true);
        x.depend(0, 4, paths(2, 3), ALL, false);
        x.depend(0, 7, ALL, ALL, false);
        x.depend(0, 3, ALL, ALL, false);
        x.depend(3, 5, ALL, ALL, false);
        x.depend(3, 7, ALL, ALL, true);
        x.depend(5, 0, ALL, ALL, true);
        x.load(0);
        x.find(0, 4);
        x.find(2, 16);
        return x;
    }
}
