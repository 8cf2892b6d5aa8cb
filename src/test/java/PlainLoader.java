import java.util.ArrayList;
import java.util.HashMap;
import java.util.HashSet;
import java.util.List;
import java.util.Map;
import java.util.NoSuchElementException;
import java.util.Set;

/** The document's words once more, by means that FlatLoader does not use; slow, for comparing. */
final class PlainLoader {
    private record Dependency(int on, int imports, int exports, boolean required) {
        boolean lets(int paths, int path) {
            return (paths / (1 << path)) % 2 == 1;
        }
    }

    private record Clazz(int module, int name) {
    }

    private static final int NOT_FOUND = -1;

    private final Set<Integer> present = new HashSet<>();
    private final Set<Integer> loaded = new HashSet<>();
    private final Map<Clazz, Integer> files = new HashMap<>();
    private final Map<Integer, List<Dependency>> dependencies = new HashMap<>();
    /** Each defined class with the module of the one that it extends. */
    private Map<Clazz, Integer> classes = new HashMap<>();

    void present(int m) {
        illegalArgumentUnless(0 <= m && m <= 7);
        illegalStateIf(present.contains(m));
        present.add(m);
        dependencies.put(m, new ArrayList<>());
    }

    void file(int m, int name, int extended) {
        illegalArgumentUnless(present.contains(m) && 0 <= name && name <= 23 && -2 <= extended && extended <= 23);
        illegalStateIf(loaded.contains(m) || files.containsKey(new Clazz(m, name)));
        files.put(new Clazz(m, name), extended);
    }

    int depend(int m, int on, int imports, int exports, boolean required) {
        illegalArgumentUnless(present.contains(m) && -1 <= on && on <= 7 && on != m);
        illegalArgumentUnless(0 <= imports && imports <= 63 && 0 <= exports && exports <= 63);
        illegalStateIf(dependencies.get(m).size() == 6);
        illegalStateIf(loaded.contains(m) && required && on >= 0 && !loaded.contains(on));
        dependencies.get(m).add(new Dependency(on, imports, exports, required));
        return dependencies.get(m).size();
    }

    int relink(int m) {
        illegalArgumentUnless(present.contains(m));
        return dependencies.put(m, new ArrayList<>()).size();
    }

    int load(int m) {
        illegalArgumentUnless(0 <= m && m <= 7);
        Set<Integer> loadable = loadable();
        if (!loadable.contains(m)) {
            throw new NoSuchElementException();
        }
        int before = loaded.size();
        Set<Integer> come = new HashSet<>();
        comeTo(m, loadable, come);
        loaded.addAll(come);
        return loaded.size() - before;
    }

    private void comeTo(int m, Set<Integer> loadable, Set<Integer> come) {
        if (loadable.contains(m) && come.add(m)) {
            for (Dependency dependency : dependencies.get(m)) {
                comeTo(dependency.on(), loadable, come);
            }
        }
    }

    /** The union of all sets that hold together is the greatest such set. */
    private Set<Integer> loadable() {
        Set<Integer> union = new HashSet<>();
        for (int bits = 0; bits < 256; bits++) {
            Set<Integer> set = new HashSet<>();
            for (int m = 0; m < 8; m++) {
                if ((bits >> m) % 2 == 1) {
                    set.add(m);
                }
            }
            if (holdsTogether(set)) {
                union.addAll(set);
            }
        }
        return union;
    }

    private boolean holdsTogether(Set<Integer> set) {
        for (int m : set) {
            if (!present.contains(m)) {
                return false;
            }
            for (Dependency dependency : dependencies.get(m)) {
                if (dependency.required() && dependency.on() >= 0 && !set.contains(dependency.on())) {
                    return false;
                }
            }
        }
        return true;
    }

    int unload(int m) {
        illegalArgumentUnless(loaded.contains(m));
        for (int other : loaded) {
            for (Dependency dependency : dependencies.get(other)) {
                illegalStateIf(other != m && dependency.on() == m && dependency.required());
            }
        }
        for (Map.Entry<Clazz, Integer> one : classes.entrySet()) {
            illegalStateIf(one.getKey().module() != m && one.getValue() == m);
        }
        loaded.remove(m);
        int before = classes.size();
        classes.keySet().removeIf(one -> one.module() == m);
        return before - classes.size();
    }

    int find(int m, int name) {
        illegalArgumentUnless(loaded.contains(m) && 0 <= name && name <= 23);
        int holder = seek(m, name);
        if (holder == NOT_FOUND) {
            throw new NoSuchElementException();
        }
        Map<Clazz, Integer> before = new HashMap<>(classes);
        try {
            define(holder, name, new ArrayList<>());
        } catch (IllegalStateException e) {
            classes = before;
            throw e;
        }
        return holder;
    }

    private int seek(int m, int name) {
        if (name == 0 || name == 1) {
            return 8;
        }
        for (int one : visibleRow(m, name / 4)) {
            if (files.containsKey(new Clazz(one, name))) {
                return one;
            }
        }
        return NOT_FOUND;
    }

    private void define(int holder, int name, List<Clazz> beingDefined) {
        Clazz one = new Clazz(holder, name);
        if (holder == 8 || classes.containsKey(one)) {
            return;
        }
        illegalStateIf(beingDefined.contains(one));
        beingDefined.add(one);
        illegalStateIf(beingDefined.size() > 10);
        int extended = files.get(one);
        illegalStateIf(extended == -2);
        int above = 9;
        if (extended >= 0) {
            above = seek(holder, extended);
            illegalStateIf(above == NOT_FOUND);
            define(above, extended, beingDefined);
        }
        classes.put(one, above);
    }

    private boolean has(int m, int path) {
        for (Clazz one : files.keySet()) {
            if (one.module() == m && one.name() / 4 == path) {
                return true;
            }
        }
        return false;
    }

    private List<Integer> visibleRow(int m, int path) {
        List<Integer> row = new ArrayList<>();
        Set<Integer> begun = new HashSet<>();
        for (Dependency dependency : dependencies.get(m)) {
            if (dependency.on() < 0) {
                row.addAll(has(m, path) ? List.of(m) : List.of());
            } else if (dependency.lets(dependency.imports(), path)) {
                row.addAll(exportedRow(dependency.on(), path, begun));
            }
        }
        return row.stream().distinct().toList();
    }

    private List<Integer> exportedRow(int d, int path, Set<Integer> begun) {
        List<Integer> row = new ArrayList<>();
        if (!loaded.contains(d) || !begun.add(d)) {
            return row;
        }
        for (Dependency dependency : dependencies.get(d)) {
            if (dependency.on() < 0) {
                row.addAll(has(d, path) ? List.of(d) : List.of());
            } else if (dependency.lets(dependency.imports(), path) && dependency.lets(dependency.exports(), path)) {
                row.addAll(exportedRow(dependency.on(), path, begun));
            }
        }
        return row;
    }

    int visible(int m, int path, int i) {
        if (!loaded.contains(m) || path < 0 || path > 5) {
            return -1;
        }
        List<Integer> row = visibleRow(m, path);
        return 0 <= i && i < row.size() ? row.get(i) : -1;
    }

    int why(int m, int name) {
        if (!loaded.contains(m) || name < 0 || name > 23) {
            return 1;
        }
        if (seek(m, name) != NOT_FOUND) {
            return 0;
        }
        int answer = 4;
        for (Clazz one : files.keySet()) {
            if (one.name() == name) {
                answer = Math.min(answer, loaded.contains(one.module()) ? 2 : 3);
            }
        }
        return answer;
    }

    int state(int m) {
        if (m < 0 || m > 7) {
            return -1;
        }
        if (!present.contains(m)) {
            return 0;
        }
        if (loaded.contains(m)) {
            return 3;
        }
        return loadable().contains(m) ? 2 : 1;
    }

    int above(int m, int name) {
        return classes.getOrDefault(new Clazz(m, name), -1);
    }

    int defined() {
        return classes.size();
    }

    private static void illegalArgumentUnless(boolean asTold) {
        if (!asTold) {
            throw new IllegalArgumentException();
        }
    }

    private static void illegalStateIf(boolean hindered) {
        if (hindered) {
            throw new IllegalStateException();
        }
    }
}
