import java.util.NoSuchElementException;

/**
 * Modules with classes of their own and filtered dependencies, also in circles.
 *
 * <p>Sets of modules and sets of paths are numbers with the bit of each member on, and the rows that a
 * call needs are made once, in the constructor: so no call makes an object, but for what it throws.
 */
public final class FlatLoader {
    private static final int MODULES = 8;
    private static final int PATHS = 6;
    private static final int NAMES_OF_A_PATH = 4;
    private static final int NAMES = PATHS * NAMES_OF_A_PATH;
    private static final int ALL_PATHS = (1 << PATHS) - 1;
    private static final int MOST_DEPENDENCIES = 6;
    private static final int MOST_DEFINED_AT_ONCE = 10;

    /** In place of a module that a dependency is on. */
    private static final int OWN = -1;

    /** In place of the name that a file extends. */
    private static final int EXTENDS_NOTHING = -1;
    private static final int BROKEN = -2;
    private static final int NO_FILE = -3;

    /** The names 0 and 1, all of path 0, are the platform's. */
    private static final int PLATFORM_NAMES = 2;

    /** In place of a module that has, or has defined, a class. */
    private static final int NONE = -1;
    private static final int PLATFORM = 8;
    private static final int NOTHING_ABOVE = 9;

    private static final int FOUND = 0;
    private static final int WHERE_NOT_LOADED = 1;
    private static final int NOT_VISIBLE = 2;
    private static final int HOLDER_NOT_LOADED = 3;
    private static final int HELD_BY_NONE = 4;

    private static final int STATE_ABSENT = 0;
    private static final int STATE_PRESENT = 1;
    private static final int STATE_LOADABLE = 2;
    private static final int STATE_LOADED = 3;

    private final OneModule[] modules;
    private int presentSet;
    private int loadedSet;

    /** The row gone through last: filled anew for each look. */
    private final Row row;

    /** The classes just being defined, each for the one before. */
    private final int[] chainModules;
    private final int[] chainNames;

    public FlatLoader() {
        modules = new OneModule[MODULES];
        for (int m = 0; m < MODULES; m++) {
            modules[m] = new OneModule();
        }
        presentSet = 0;
        loadedSet = 0;
        row = new Row();
        chainModules = new int[MOST_DEFINED_AT_ONCE];
        chainNames = new int[MOST_DEFINED_AT_ONCE];
    }

    public void present(int m) throws IllegalArgumentException, IllegalStateException {
        if (!isModule(m)) {
            throw new IllegalArgumentException("no such module");
        }
        if (isPresent(m)) {
            throw new IllegalStateException("the module is present");
        }
        presentSet |= bit(m);
    }

    public void file(int m, int name, int extended) throws IllegalArgumentException, IllegalStateException {
        if (!isPresent(m) || !isName(name) || !isExtended(extended)) {
            throw new IllegalArgumentException("no present module or no such name");
        }
        if (isLoaded(m) || modules[m].holds(name)) {
            throw new IllegalStateException("the module is loaded or holds the name");
        }
        modules[m].extended[name] = extended;
    }

    public int depend(int m, int on, int imports, int exports, boolean required)
            throws IllegalArgumentException, IllegalStateException {
        if (!isPresent(m) || !canDependOn(m, on) || !isPathSet(imports) || !isPathSet(exports)) {
            throw new IllegalArgumentException("no present module, nothing to depend on, or no set of paths");
        }
        if (modules[m].dependencies >= MOST_DEPENDENCIES) {
            throw new IllegalStateException("the module has all the dependencies that it can have");
        }
        if (isLoaded(m) && required && on != OWN && !isLoaded(on)) {
            throw new IllegalStateException("a loaded module cannot require one that is not loaded");
        }
        modules[m].addDependency(on, imports, exports, required);
        return modules[m].dependencies;
    }

    public int relink(int m) throws IllegalArgumentException {
        if (!isPresent(m)) {
            throw new IllegalArgumentException("no present module");
        }
        int gone = modules[m].dependencies;
        modules[m].dropDependencies();
        return gone;
    }

    public int load(int m) throws IllegalArgumentException, NoSuchElementException {
        if (!isModule(m)) {
            throw new IllegalArgumentException("no such module");
        }
        int loadable = loadableSet();
        if (!isIn(loadable, m)) {
            throw new NoSuchElementException("the module is not loadable");
        }
        int fresh = reachedSet(m, loadable) & ~loadedSet;
        loadedSet |= fresh;
        return Integer.bitCount(fresh);
    }

    public int unload(int m) throws IllegalArgumentException, IllegalStateException {
        if (!isLoaded(m)) {
            throw new IllegalArgumentException("no loaded module");
        }
        if (isHeldByAnother(m)) {
            throw new IllegalStateException("another module needs the module or extends a class of it");
        }
        int gone = modules[m].countClasses();
        modules[m].dropClasses();
        loadedSet &= ~bit(m);
        return gone;
    }

    public int find(int m, int name)
            throws IllegalArgumentException, NoSuchElementException, IllegalStateException {
        if (!isLoaded(m) || !isName(name)) {
            throw new IllegalArgumentException("no loaded module or no such name");
        }
        int holder = holderSeenFrom(m, name);
        if (holder == NONE) {
            throw new NoSuchElementException("the name is not found");
        }
        if (!defineWithAllAbove(holder, name)) {
            throw new IllegalStateException("the class cannot be defined");
        }
        return holder;
    }

    public int visible(int m, int path, int i) {
        if (!isLoaded(m) || path < 0 || path >= PATHS) {
            return NONE;
        }
        fillVisibleRow(m, path);
        return i >= 0 && i < row.size ? row.members[i] : NONE;
    }

    public int why(int m, int name) {
        if (!isLoaded(m) || !isName(name)) {
            return WHERE_NOT_LOADED;
        }
        if (holderSeenFrom(m, name) != NONE) {
            return FOUND;
        }
        int holders = holderSet(name);
        if ((holders & loadedSet) != 0) {
            return NOT_VISIBLE;
        }
        return holders != 0 ? HOLDER_NOT_LOADED : HELD_BY_NONE;
    }

    public int state(int m) {
        if (!isModule(m)) {
            return NONE;
        }
        if (!isPresent(m)) {
            return STATE_ABSENT;
        }
        if (isLoaded(m)) {
            return STATE_LOADED;
        }
        return isIn(loadableSet(), m) ? STATE_LOADABLE : STATE_PRESENT;
    }

    public int above(int m, int name) {
        return isModule(m) && isName(name) ? modules[m].definedAbove[name] : NONE;
    }

    public int defined() {
        int count = 0;
        for (int m = 0; m < MODULES; m++) {
            count += modules[m].countClasses();
        }
        return count;
    }

    private static int bit(int member) {
        return 1 << member;
    }

    private static boolean isIn(int set, int member) {
        return (set >> member & 1) != 0;
    }

    private static boolean isModule(int m) {
        return m >= 0 && m < MODULES;
    }

    private static boolean isName(int name) {
        return name >= 0 && name < NAMES;
    }

    private static boolean isExtended(int extended) {
        return isName(extended) || extended == EXTENDS_NOTHING || extended == BROKEN;
    }

    private static boolean isPathSet(int set) {
        return set >= 0 && set <= ALL_PATHS;
    }

    private static boolean canDependOn(int m, int on) {
        return on == OWN || isModule(on) && on != m;
    }

    private boolean isPresent(int m) {
        return isModule(m) && isIn(presentSet, m);
    }

    private boolean isLoaded(int m) {
        return isModule(m) && isIn(loadedSet, m);
    }

    /** The greatest set: from all that are present, those that lack something fall out, round by round. */
    private int loadableSet() {
        int set = presentSet;
        for (int round = 0; round < MODULES; round++) {
            set = withoutLacking(set);
        }
        return set;
    }

    private int withoutLacking(int set) {
        int left = set;
        for (int m = 0; m < MODULES; m++) {
            if ((modules[m].requiredSet & ~set) != 0) {
                left &= ~bit(m);
            }
        }
        return left;
    }

    /** A way without a circle has less than MODULES steps, so that many rounds come to all. */
    private int reachedSet(int from, int allowed) {
        int reached = bit(from);
        for (int round = 0; round < MODULES; round++) {
            reached |= nextTo(reached) & allowed;
        }
        return reached;
    }

    private int nextTo(int set) {
        int next = 0;
        for (int m = 0; m < MODULES; m++) {
            if (isIn(set, m)) {
                next |= modules[m].dependedSet;
            }
        }
        return next;
    }

    private boolean isHeldByAnother(int m) {
        for (int other = 0; other < MODULES; other++) {
            if (other != m && isLoaded(other)
                    && (isIn(modules[other].requiredSet, m) || modules[other].hasClassBelow(m))) {
                return true;
            }
        }
        return false;
    }

    private int holderSet(int name) {
        int holders = 0;
        for (int m = 0; m < MODULES; m++) {
            if (modules[m].holds(name)) {
                holders |= bit(m);
            }
        }
        return holders;
    }

    /** The module whose class a name means in a loaded module, PLATFORM or NONE. */
    private int holderSeenFrom(int m, int name) {
        if (name < PLATFORM_NAMES) {
            return PLATFORM;
        }
        fillVisibleRow(m, name / NAMES_OF_A_PATH);
        for (int i = 0; i < row.size; i++) {
            if (modules[row.members[i]].holds(name)) {
                return row.members[i];
            }
        }
        return NONE;
    }

    /** Does not begin m's exported row, which a circle may still come to. */
    private void fillVisibleRow(int m, int path) {
        row.clear();
        OneModule seeing = modules[m];
        for (int i = 0; i < seeing.dependencies; i++) {
            if (seeing.on[i] == OWN) {
                row.addOnceIf(seeing.hasPath(path), m);
            } else if (isIn(seeing.imports[i], path)) {
                addExportedRow(seeing.on[i], path, 1);
            }
        }
    }

    private void addExportedRow(int m, int path, int depth) {
        if (depth > MODULES || !isLoaded(m) || isIn(row.begun, m)) {
            return;
        }
        row.begun |= bit(m);
        OneModule exporting = modules[m];
        for (int i = 0; i < exporting.dependencies; i++) {
            if (exporting.on[i] == OWN) {
                row.addOnceIf(exporting.hasPath(path), m);
            } else if (isIn(exporting.imports[i] & exporting.exports[i], path)) {
                addExportedRow(exporting.on[i], path, depth + 1);
            }
        }
    }

    /**
     * Goes up from a class to one that needs no defining, and only then defines all those on the way, so
     * that nothing has to be undone. A circle never comes to such a class: it ends at the limit.
     */
    private boolean defineWithAllAbove(int m, int name) {
        int holder = m;
        int wanted = name;
        int size = 0;
        while (size < MOST_DEFINED_AT_ONCE && !needsNoDefining(holder, wanted)) {
            chainModules[size] = holder;
            chainNames[size] = wanted;
            size++;
            wanted = modules[holder].extended[wanted];
            if (wanted == BROKEN) {
                return false;
            }
            holder = wanted == EXTENDS_NOTHING ? NOTHING_ABOVE : holderSeenFrom(holder, wanted);
            if (holder == NONE) {
                return false;
            }
        }
        if (!needsNoDefining(holder, wanted)) {
            return false;
        }
        defineChain(size, holder);
        return true;
    }

    private boolean needsNoDefining(int holder, int name) {
        return holder == PLATFORM || holder == NOTHING_ABOVE || modules[holder].hasDefined(name);
    }

    private void defineChain(int size, int top) {
        int above = top;
        for (int i = size - 1; i >= 0; i--) {
            modules[chainModules[i]].definedAbove[chainNames[i]] = above;
            above = chainModules[i];
        }
    }

    /** The files, dependencies and defined classes of a module; one that is not present has none. */
    private static final class OneModule {
        /** For each name what its file extends, or NO_FILE. */
        private final int[] extended;

        /** For each name the module of the class that the defined class extends, or NONE if not defined. */
        private final int[] definedAbove;

        private final int[] on;
        private final int[] imports;
        private final int[] exports;
        private int dependencies;

        /** The other modules that some dependency, or some required one, is on. */
        private int dependedSet;
        private int requiredSet;

        private OneModule() {
            extended = new int[NAMES];
            definedAbove = new int[NAMES];
            for (int name = 0; name < NAMES; name++) {
                extended[name] = NO_FILE;
                definedAbove[name] = NONE;
            }
            on = new int[MOST_DEPENDENCIES];
            imports = new int[MOST_DEPENDENCIES];
            exports = new int[MOST_DEPENDENCIES];
            dependencies = 0;
            dependedSet = 0;
            requiredSet = 0;
        }

        private boolean holds(int name) {
            return extended[name] != NO_FILE;
        }

        private boolean hasPath(int path) {
            for (int number = 0; number < NAMES_OF_A_PATH; number++) {
                if (holds(path * NAMES_OF_A_PATH + number)) {
                    return true;
                }
            }
            return false;
        }

        /** The caller has seen that there is room for one more. */
        private void addDependency(int other, int imported, int exported, boolean required) {
            on[dependencies] = other;
            imports[dependencies] = imported;
            exports[dependencies] = exported;
            dependencies++;
            if (other != OWN) {
                dependedSet |= bit(other);
                requiredSet |= required ? bit(other) : 0;
            }
        }

        private void dropDependencies() {
            dependencies = 0;
            dependedSet = 0;
            requiredSet = 0;
        }

        private boolean hasDefined(int name) {
            return definedAbove[name] != NONE;
        }

        private int countClasses() {
            int count = 0;
            for (int name = 0; name < NAMES; name++) {
                if (hasDefined(name)) {
                    count++;
                }
            }
            return count;
        }

        private void dropClasses() {
            for (int name = 0; name < NAMES; name++) {
                definedAbove[name] = NONE;
            }
        }

        private boolean hasClassBelow(int other) {
            for (int name = 0; name < NAMES; name++) {
                if (definedAbove[name] == other) {
                    return true;
                }
            }
            return false;
        }
    }

    /** Modules in the order in which they came, each once, and those whose exported row was begun. */
    private static final class Row {
        private final int[] members;
        private int size;
        private int memberSet;
        private int begun;

        private Row() {
            members = new int[MODULES];
            clear();
        }

        private void clear() {
            size = 0;
            memberSet = 0;
            begun = 0;
        }

        private void addOnceIf(boolean belongs, int m) {
            if (belongs && size < MODULES && !isIn(memberSet, m)) {
                members[size] = m;
                size++;
                memberSet |= bit(m);
            }
        }
    }
}
