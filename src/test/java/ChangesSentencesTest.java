/** The sentences of the promises 1 to 7, of calls that change something, that name a boundary case. */
public final class ChangesSentencesTest {
    private static final Sentences THE = new Sentences("ChangesSentencesTest");

    public static void main(String[] args) {
        newObject();
        present();
        file();
        fileRefused();
        depend();
        dependRefused();
        relink();
        load();
        loadRefused();
        unload();
        unloadRefused();
        THE.end();
    }

    private static void newObject() {
        THE.holds("1: No module is present.", """
                state {0..7} -> 0
                relink {0..7} -> IllegalArgumentException
                load {0..7} -> NoSuchElementException
                unload {0..7} -> IllegalArgumentException
                file {0..7} 4 NOTHING -> IllegalArgumentException
                depend {0..7} OWN 0 0 optional -> IllegalArgumentException
                find {0..7} 0 -> IllegalArgumentException
                visible {0..7} 0 0 -> -1
                why {0..7} 0 -> 1
                above {0..7} {0,4,23} -> -1
                defined -> 0
                present {0..7} -> done
                """);
        THE.holds("1: a new object is new when there are others", """
                present 0
                file 0 4 NOTHING
                depend 0 OWN 0 0 optional
                load 0
                find 0 4 -> 0
                new
                state 0 -> 0
                defined -> 0
                present 0
                file 0 4 NOTHING -> done
                depend 0 OWN 0 0 optional -> 1
                load 0 -> 1
                above 0 4 -> -1
                """);
    }

    private static void present() {
        THE.holds("2: Module m is present, without files and dependencies.", """
                present {0,7}               # the first and the last
                state {0,7} -> 2
                state {1..6} -> 0
                relink {0,7} -> 0
                file {0,7} {0..23} NOTHING -> done
                load {0,7} -> 1
                visible {0,7} {0..5} 0 -> -1
                why {0,7} {2..23} -> 2
                """);
        THE.holds("2: IllegalArgumentException if m is not 0 .. 7", """
                present BAD_MODULE -> IllegalArgumentException
                state {0..7} -> 0
                present {0..7}
                present BAD_MODULE -> IllegalArgumentException
                """);
        THE.holds("2: IllegalStateException if it is present.", """
                present 0 -> done
                present 0 -> IllegalStateException
                present 7 -> done
                present {0,7} -> IllegalStateException
                load 0
                present 0 -> IllegalStateException # loaded
                unload 0
                present 0 -> IllegalStateException # loaded no more
                present {1..6} -> done
                """);
    }

    private static void file() {
        THE.holds("3: Module m holds a file for a name", """
                present {0,7}
                depend {0,7} OWN 0 0 optional
                file 0 2 NOTHING -> done
                file 0 23 NOTHING -> done   # the last name
                file 7 23 NOTHING -> done   # which another module holds too
                file {0,7} {0,1} NOTHING -> done # the platform's names too
                load {0,7}
                find 0 {2,23} -> 0
                find 7 23 -> 7
                why 7 2 -> 2
                """);
        THE.holds("3: which extends the class of another name (0 .. 23), nothing (-1), or is broken (-2).", """
                present 0
                depend 0 OWN 0 0 optional
                file 0 4 0 -> done
                file 0 5 23 -> done
                file 0 23 -1 -> done
                file 0 6 -2 -> done
                load 0
                find 0 {4,5} -> 0
                find 0 6 -> IllegalStateException
                above 0 4 -> 8
                above 0 5 -> 0
                above 0 23 -> 9
                """);
        THE.holds("3: (0 .. 23): every name can be extended", """
                present 0
                depend 0 OWN 0 0 optional
                file 0 2 0 -> done
                file 0 3 1 -> done
                file 0 4 2 -> done
                file 0 5 3 -> done
                file 0 6 4 -> done
                file 0 7 5 -> done
                file 0 8 6 -> done
                file 0 9 7 -> done
                file 0 10 8 -> done
                file 0 11 9 -> done
                file 0 12 10 -> done
                file 0 13 11 -> done
                file 0 14 12 -> done
                file 0 15 13 -> done
                file 0 16 14 -> done
                file 0 17 15 -> done
                file 0 18 16 -> done
                file 0 19 17 -> done
                file 0 20 18 -> done
                file 0 21 19 -> done
                file 0 22 20 -> done
                file 0 23 21 -> done
                file 0 0 22 -> done
                file 0 1 23 -> done
                load 0
                find 0 {2..23} -> 0
                above 0 {2,3} -> 8
                above 0 {4..23} -> 0
                """);
    }

    private static void fileRefused() {
        THE.holds("3: IllegalArgumentException if m is not present", """
                file {0..7} 4 NOTHING -> IllegalArgumentException
                present {0,7}
                file {1..6} 4 NOTHING -> IllegalArgumentException
                file BAD_MODULE 4 NOTHING -> IllegalArgumentException
                file {0,7} 4 NOTHING -> done
                """);
        THE.holds("3: or a name is not so: the name", """
                present 0
                file 0 BAD_NAME NOTHING -> IllegalArgumentException
                file 0 BAD_NAME BROKEN -> IllegalArgumentException
                file 0 BAD_NAME 4 -> IllegalArgumentException
                file 0 {0,23} NOTHING -> done
                """);
        THE.holds("3: or a name is not so: the name that it extends", """
                present 0
                file 0 4 {-3,24} -> IllegalArgumentException
                file 0 4 {-4,-24,25,28,32,256,65540,1073741824,MIN,-2147483644,MAX} -> IllegalArgumentException
                file 0 4 -2 -> done
                file 0 5 -1 -> done
                file 0 6 0 -> done
                file 0 7 23 -> done
                """);
        THE.holds("3: IllegalStateException if m is loaded", """
                present {0,1}
                depend {0,1} OWN 0 0 optional
                load 0
                file 0 {0..23} NOTHING -> IllegalStateException
                file 1 4 NOTHING -> done    # another one is loaded
                why 0 4 -> 3
                why 0 {5..23} -> 4
                unload 0
                file 0 {0..23} NOTHING -> done
                """);
        THE.holds("3: or holds that name.", """
                present {0,1}
                file 0 0 NOTHING
                file 0 4 BROKEN
                file 0 5 23
                file 0 23 NOTHING
                file 0 {0,4,5,23} {-2,-1,1,22} -> IllegalStateException
                file 1 {0,4,5,23} NOTHING -> done # another one holds it
                file 0 {1,3,6,22} NOTHING -> done
                load 0
                unload 0
                file 0 {0,4,5,23} NOTHING -> IllegalStateException
                """);
    }

    private static void depend() {
        THE.holds("4: How many dependencies m has with one more", """
                present {0,1}
                depend 0 OWN 0 0 optional -> 1
                depend 0 OWN 0 0 optional -> 2
                depend 1 OWN 0 0 optional -> 1
                depend 0 7 0 0 optional -> 3
                depend 0 7 0 0 required -> 4
                depend 0 6 0 0 required -> 5
                depend 0 OWN 0 0 required -> 6
                depend 1 OWN 0 0 optional -> 2
                """);
        THE.holds("4: on is a module 0 .. 7 other than m, or -1 for OWN.", """
                present {0,7}
                depend 0 1 0 0 optional -> 1 # one that is not present too
                depend 0 7 0 0 optional -> 2
                depend 0 -1 0 0 optional -> 3
                depend 7 0 0 0 optional -> 1
                depend 7 6 0 0 optional -> 2
                depend 7 -1 0 0 optional -> 3
                file 7 4 NOTHING
                load 7 -> 2
                visible 7 1 0 -> 7
                visible 0 1 0 -> -1
                """);
    }

    private static void dependRefused() {
        THE.holds("4: IllegalArgumentException if m is not present", """
                depend {0..7} {OWN,3} 0 0 optional -> IllegalArgumentException
                present {0,7}
                depend {1..6} {OWN,0,7} 0 0 optional -> IllegalArgumentException
                depend BAD_MODULE {OWN,0,7} 0 0 required -> IllegalArgumentException
                depend {0,7} OWN 0 0 optional -> 1
                """);
        THE.holds("4: on is none of these", """
                present {0..7}
                depend 0 {-2,8} 0 0 optional -> IllegalArgumentException
                depend 0 0 0 0 optional -> IllegalArgumentException
                depend 3 3 0 0 required -> IllegalArgumentException
                depend 7 7 0 0 optional -> IllegalArgumentException
                depend 0 {9,16,31,32,33,39,256,65536,MAX} 0 0 optional -> IllegalArgumentException
                depend 0 {-3,-8,-24,-31,-32,MIN,-2147483647} 0 0 optional -> IllegalArgumentException
                relink {0,3,7} -> 0
                """);
        THE.holds("4: or a set of paths is not 0 .. 63", """
                present {0,1}
                depend 0 1 BAD_SET 0 optional -> IllegalArgumentException
                depend 0 1 0 BAD_SET optional -> IllegalArgumentException
                depend 0 1 BAD_SET BAD_SET required -> IllegalArgumentException
                depend 0 OWN BAD_SET 0 optional -> IllegalArgumentException
                depend 0 OWN 0 BAD_SET optional -> IllegalArgumentException
                relink 0 -> 0
                depend 0 1 0 0 optional -> 1
                depend 0 1 63 63 optional -> 2
                depend 0 1 0 63 optional -> 3
                depend 0 1 63 0 optional -> 4
                """);
        THE.holds("4: IllegalStateException if m has 6", """
                present {0,1}
                depend 0 {1..5} 0 0 optional
                depend 0 6 0 0 optional -> 6
                depend 0 {OWN,1..7} 0 0 optional -> IllegalStateException
                depend 0 {OWN,1..7} ALL ALL required -> IllegalStateException
                depend 1 0 0 0 optional -> 1 # another one has 6
                load 0
                depend 0 {OWN,1..7} 0 0 optional -> IllegalStateException
                relink 0 -> 6
                depend 0 7 0 0 optional -> 1
                """);
        THE.holds("4: or if it is loaded, required is true, and on is a module that is not loaded.", """
                present {0..3}
                load {0,1}
                depend 0 {2,4,7} 0 0 required -> IllegalStateException # loadable, and not present
                depend 0 2 0 0 optional -> 1 # not required
                depend 0 7 0 0 optional -> 2
                depend 0 1 0 0 required -> 3 # on a loaded one
                depend 0 OWN 0 0 required -> 4 # on no module
                depend 2 {3,7} 0 0 required # m is not loaded
                relink 2 -> 2
                load 2
                depend 0 2 0 0 required -> 5
                relink {0..2}
                unload 1
                depend 0 1 0 0 required -> IllegalStateException # loaded no more
                """);
    }

    private static void relink() {
        THE.holds("5: All dependencies of m are gone: how many there were.", """
                present {0,1}
                relink 0 -> 0               # none
                depend 0 OWN 0 0 optional
                relink 0 -> 1
                relink 0 -> 0
                depend 0 {OWN,1,2,3,4,5} ALL ALL required
                depend 1 OWN 0 0 optional
                state 0 -> 1
                relink 0 -> 6               # as many as there can be
                state 0 -> 2
                depend 0 {OWN,1,2,3,4,5} ALL ALL optional
                load 0 -> 2
                relink 0 -> 6               # of a loaded one
                relink 1 -> 1               # those of another one stay
                state {0,1} -> 3
                """);
        THE.holds("5: All dependencies of m are gone: none of them says anything later", """
                present {0..2}
                file {0..2} 4 NOTHING
                depend {1,2} OWN 0 0 optional
                depend 0 {OWN,1,2} ALL ALL required
                relink 0 -> 3
                load 0 -> 1
                row 0 1 -> none
                load {1,2}
                depend 0 2 0 0 optional -> 1
                row 0 1 -> none
                unload 1 -> 0
                unload 2 -> 0
                """);
        THE.holds("5: IllegalArgumentException if m is not present.", """
                relink {0..7} -> IllegalArgumentException
                present {0,7}
                relink {1..6} -> IllegalArgumentException
                relink BAD_MODULE -> IllegalArgumentException
                relink {0,7} -> 0
                """);
    }

    private static void load() {
        THE.holds("6: m, and all loadable modules that can be come to from it", """
                present {0..7}
                depend 0 1 0 0 optional     # the longest way there is
                depend 1 2 0 0 optional
                depend 2 3 0 0 required
                depend 3 4 0 0 optional
                depend 4 5 0 0 required
                depend 5 6 0 0 optional
                depend 6 7 0 0 optional
                load 7 -> 1
                state {0..6} -> 2           # not those that come to it
                load 0 -> 7
                state {0..7} -> 3
                new
                present {0..7}
                depend 7 6 0 0 optional     # the other way round
                depend 6 5 0 0 optional
                depend 5 4 0 0 optional
                depend 4 3 0 0 optional
                depend 3 2 0 0 optional
                depend 2 1 0 0 optional
                depend 1 0 0 0 optional
                load 7 -> 8
                new
                present {0,1}
                depend 0 OWN ALL ALL required
                load 0 -> 1                 # m alone
                state 1 -> 2
                """);
        THE.holds("6: over dependencies on loadable modules", """
                present {0..4}
                depend 0 {1,2,6} 0 0 optional
                depend 1 5 0 0 required     # 1 is not loadable, and 3 can be come to only over it
                depend 1 3 0 0 optional
                depend 2 4 0 0 optional
                load 0 -> 3
                state {0,2,4} -> 3
                state 1 -> 1
                state 3 -> 2
                present {5,6}
                load 0 -> 4                 # 1, 3, 5, 6
                state {0..6} -> 3
                """);
        THE.holds("6: are loaded: how many were not before.", """
                present {0..3}
                load 0 -> 1
                load 0 -> 0
                depend 0 1 0 0 optional
                depend 1 2 0 0 required
                load 0 -> 2                 # m was loaded
                unload 1
                load 0 -> 1                 # 1 was not, 2 was
                depend 2 3 0 0 optional
                load 0 -> 1                 # behind two that were
                load {0..3} -> 0
                """);
    }

    private static void loadRefused() {
        THE.holds("6: IllegalArgumentException if m is not 0 .. 7", """
                load BAD_MODULE -> IllegalArgumentException
                present {0..7}
                load BAD_MODULE -> IllegalArgumentException
                state {0..7} -> 2
                load {0,7} -> 1
                """);
        THE.holds("6: NoSuchElementException if it is not loadable.", """
                load {0..7} -> NoSuchElementException
                present {0..2}
                load {3..7} -> NoSuchElementException
                depend 0 1 0 0 required
                depend 1 2 0 0 required
                depend 2 7 0 0 required
                load {0..2} -> NoSuchElementException
                state {0..2} -> 1
                present 7
                load 0 -> 4
                """);
    }

    private static void unload() {
        THE.holds("7: m is loaded no more, and the classes that it defined are gone: how many.", """
                present {0,1}
                file 0 {0..23} NOTHING
                file 1 {4,5} NOTHING
                depend {0,1} OWN 0 0 optional
                load {0,1}
                unload 0 -> 0               # none
                state 0 -> 2
                load 0 -> 1
                find 1 {4,5} -> 1
                find 0 {0..23}
                defined -> 24
                unload 0 -> 22              # all there can be
                above 0 {0..23} -> -1
                defined -> 2                # those of another one stay
                above 1 {4,5} -> 9
                state 1 -> 3
                load 0 -> 1
                above 0 {0..23} -> -1
                unload 0 -> 0
                """);
        THE.holds("7: m is loaded no more: its files and dependencies stay", """
                present {0,1}
                file 0 4 NOTHING
                depend 0 {OWN,1} ALL ALL required
                load 0 -> 2
                find 0 4 -> 0
                unload 0 -> 1
                file 0 4 NOTHING -> IllegalStateException
                state 1 -> 3                # what it came to stays loaded
                load 0 -> 1
                find 0 4 -> 0
                relink 0 -> 2
                """);
    }

    private static void unloadRefused() {
        THE.holds("7: IllegalArgumentException if m is not loaded", """
                unload {0..7} -> IllegalArgumentException
                present {0..7}
                unload {0..7} -> IllegalArgumentException
                load {0,7}
                unload {1..6} -> IllegalArgumentException
                unload BAD_MODULE -> IllegalArgumentException
                unload {0,7} -> 0
                unload {0,7} -> IllegalArgumentException
                """);
        THE.holds("7: IllegalStateException if another loaded module has a required dependency on it", """
                present {0..3}
                depend 0 {OWN,1} 0 0 required
                depend 2 {0,1} 0 0 optional # not required
                depend 3 1 0 0 required     # not loaded
                load 2 -> 3
                unload 1 -> IllegalStateException
                state 1 -> 3
                unload 0 -> 0               # its own OWN is no other module
                unload 1 -> 0
                load 3 -> 2
                unload 1 -> IllegalStateException
                relink 3
                unload 1 -> 0
                new
                present {0,1}               # a circle holds itself
                depend 0 1 0 0 required
                depend 1 0 0 0 required
                load 0 -> 2
                unload {0,1} -> IllegalStateException
                relink 0
                unload 0 -> IllegalStateException
                unload 1 -> 0
                unload 0 -> 0
                """);
        THE.holds("7: or a class that another module defined extends one of its.", """
                present {0..3}
                file 0 4 8
                file 1 8 9
                file 1 9 NOTHING
                file 2 4 8                  # would extend it, but is not defined
                file 3 4 0
                depend {0,2} {OWN,1} ALL 0 optional
                depend {1,3} OWN 0 0 optional
                load {0..3}
                find 1 8 -> 1
                unload 1 -> 2               # a class of its own extends one of its
                load 1 -> 1
                find 0 4 -> 0
                find 3 4 -> 3
                unload 1 -> IllegalStateException
                defined -> 4
                relink 0
                unload 1 -> IllegalStateException # without the dependency too
                unload 0 -> 1
                unload 1 -> 2
                unload 3 -> 1
                """);
    }
}
