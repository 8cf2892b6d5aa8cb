/** The sentences of the promises 8 to 13, of find and the calls that only tell, that name a boundary case. */
public final class AnswersSentencesTest {
    private static final Sentences THE = new Sentences("AnswersSentencesTest");

    /** Module 0 sees 1 and itself, but neither 2, which is loaded, nor 3, which is not. */
    private static final String FOUR_MODULES = """
            present {0..3}
            file 0 4 NOTHING
            file 0 5 BROKEN
            file 0 6 20
            file 1 8 NOTHING
            file 1 9 0
            file 2 12 NOTHING
            file 3 {12,16} NOTHING
            depend 0 {1,OWN} ALL 0 optional
            depend {1,2} OWN 0 0 optional
            load {0,2}
            """;

    public static void main(String[] args) {
        find();
        findRefused();
        visible();
        noVisible();
        why();
        whyOrder();
        state();
        above();
        noAbove();
        defined();
        THE.end();
    }

    private static void find() {
        THE.holds("8: Finds a name in m and defines its class: the module that defined it", FOUR_MODULES + """
                find 0 4 -> 0
                defined -> 1
                find 0 8 -> 1               # not m itself
                defined -> 2
                find 0 4 -> 0
                find 0 8 -> 1               # once more, and nothing new is defined
                defined -> 2
                new
                present {0..7}
                file {0..7} 23 NOTHING
                depend {0..7} OWN 0 0 optional
                load {0..7}
                find 0 23 -> 0              # the first
                find 7 23 -> 7              # the last
                defined -> 2
                """);
        THE.holds("8: 8 for the platform", FOUR_MODULES + """
                find {0..2} {0,1} -> 8
                find 0 9 -> 1               # which extends the platform's, but is not its
                defined -> 1
                """);
    }

    private static void findRefused() {
        THE.holds("8: IllegalArgumentException if m is not loaded", FOUR_MODULES + """
                find 3 {0,12,16} -> IllegalArgumentException # present
                find {4..7} {0,4} -> IllegalArgumentException # not present
                find BAD_MODULE {0,4} -> IllegalArgumentException
                find 0 4 -> 0
                unload 0
                find 0 {0,4} -> IllegalArgumentException
                """);
        THE.holds("8: or the name not 0 .. 23", FOUR_MODULES + """
                find 0 BAD_NAME -> IllegalArgumentException
                find 0 0 -> 8
                find 0 23 -> NoSuchElementException
                """);
        THE.holds("8: NoSuchElementException if it is not found", FOUR_MODULES + """
                find 0 {2,3,7,10..23} -> NoSuchElementException
                find 1 {2..7,10..23} -> NoSuchElementException
                defined -> 0
                relink 0
                find 0 {2..23} -> NoSuchElementException # no dependency at all
                """);
        THE.holds("8: IllegalStateException if it cannot be defined.", FOUR_MODULES + """
                find 0 5 -> IllegalStateException # broken
                find 0 6 -> IllegalStateException # extends one that is not found
                defined -> 0
                above 0 {5,6} -> -1
                find 0 4 -> 0
                """);
    }

    private static void visible() {
        THE.holds("9: Module i (from 0) of the visible row of m for a path", """
                present {0..7}
                file {0..7} {0,23} NOTHING
                depend {0..7} OWN 0 0 optional
                depend 0 1 ALL ALL optional
                depend 1 2 ALL ALL optional
                depend 2 3 ALL ALL optional
                depend 3 4 ALL ALL optional
                depend 4 5 ALL ALL optional
                depend 5 6 ALL ALL optional
                depend 6 7 ALL ALL optional
                load 0
                visible 0 {0,5} 0 -> 0
                visible 0 {0,5} 1 -> 1
                visible 0 {0,5} 6 -> 6
                visible 0 {0,5} 7 -> 7      # all modules are in the row
                visible 0 {0,5} 8 -> -1
                visible 7 {0,5} 0 -> 7
                visible 7 {0,5} 1 -> -1
                """);
    }

    private static void noVisible() {
        THE.holds("9: -1 if there is none", FOUR_MODULES + """
                visible 0 1 0 -> 0
                visible 0 1 {-1,1} -> -1    # just before and behind the row
                visible 0 1 {-2,2,7,8,9,32,64,256,65536,MIN,-2147483647,MAX} -> -1
                visible 0 {0,3,4,5} 0 -> -1 # an empty row
                """);
        THE.holds("9: m is not loaded", FOUR_MODULES + """
                visible 3 {3,4} 0 -> -1     # present
                visible {4..7} {0..5} 0 -> -1 # not present
                visible BAD_MODULE {0..5} 0 -> -1
                visible 0 1 0 -> 0
                unload 0
                visible 0 1 0 -> -1
                """);
        THE.holds("9: or there is no such path", """
                present 0
                file 0 {0..23} NOTHING
                depend 0 OWN 0 0 optional
                load 0
                visible 0 {0..5} 0 -> 0
                visible 0 BAD_PATH {0,-1,1} -> -1
                """);
    }

    private static void why() {
        THE.holds("10: 0 it is found", FOUR_MODULES + """
                why {0..2} {0,1} -> 0       # by the platform
                why 0 {4,8,9} -> 0
                why 2 12 -> 0
                """);
        THE.holds("10: (as to find; whether it can be defined does not matter)", FOUR_MODULES + """
                find 0 {5,6} -> IllegalStateException
                why 0 {5,6} -> 0
                defined -> 0
                """);
        THE.holds("10: 1 m is not loaded", FOUR_MODULES + """
                why 3 {0..23} -> 1          # present
                why {4,7} {0..23} -> 1      # not present
                why 0 4 -> 0
                unload 0
                why 0 {0,4} -> 1
                """);
        THE.holds("10: (or there is no such module or name)", FOUR_MODULES + """
                why BAD_MODULE {0,4,23} -> 1
                why 0 BAD_NAME -> 1
                why 0 0 -> 0
                why 0 23 -> 4
                """);
        THE.holds("10: 2 some loaded module holds it, but none that is visible", FOUR_MODULES + """
                why 2 {4,5,6,8,9} -> 2
                why 0 12 -> 2
                relink 0
                why 0 {4,5,6} -> 2          # m itself holds it, without OWN
                """);
        THE.holds("10: 3 some module that is not loaded holds it", FOUR_MODULES + """
                why {0..2} 16 -> 3
                unload 0
                why {1,2} {4..6} -> 3       # loaded no more
                """);
        THE.holds("10: 4 none does.", FOUR_MODULES + """
                why {0..2} {2,3,7,10,11,13..15,17..23} -> 4
                """);
    }

    private static void whyOrder() {
        THE.holds("10: why a name is not found: held by a loaded module and by one that is not", FOUR_MODULES + """
                why 0 12 -> 2               # by 2, and by 3 too
                unload 2
                why 0 12 -> 3
                load 3
                why 0 12 -> 2
                """);
    }

    private static void state() {
        THE.holds("11: 0 not present", """
                state {0..7} -> 0
                present {0,7}
                depend 0 1 0 0 optional
                load 0
                state {1..6} -> 0           # though one depends on it
                """);
        THE.holds("11: 1 present", """
                present {0,7}
                depend {0,7} 3 0 0 required
                state {0,7} -> 1
                """);
        THE.holds("11: 2 loadable", """
                present {0,7}
                state {0,7} -> 2
                depend 0 7 0 0 required
                state 0 -> 2
                load 0
                unload 0
                state 0 -> 2                # loaded no more
                """);
        THE.holds("11: 3 loaded", """
                present {0,7}
                load {0,7}
                state {0,7} -> 3
                depend {0,7} 3 0 0 optional
                state {0,7} -> 3
                """);
        THE.holds("11: -1 if there is no such module.", """
                state BAD_MODULE -> -1
                present {0..7}
                load {0..7}
                state BAD_MODULE -> -1
                """);
    }

    private static void above() {
        THE.holds("12: The module that defined the class which the class of a name defined by m extends", """
                present {0,1,7}
                file 0 4 5
                file 0 5 8
                file 1 8 23
                file 7 23 NOTHING
                depend 0 {OWN,1} ALL 0 optional
                depend 1 {OWN,7} ALL 0 optional
                depend 7 OWN 0 0 optional
                load 0
                find 0 4 -> 0
                above 0 4 -> 0              # m itself
                above 0 5 -> 1
                above 1 8 -> 7
                relink {0,1}
                above 0 5 -> 1              # as it was when it was defined
                """);
        THE.holds("12: (8 for the platform, 9 if it extends nothing)", FOUR_MODULES + """
                find 0 {4,8,9}
                above 0 4 -> 9
                above 1 8 -> 9
                above 1 9 -> 8
                """);
    }

    private static void noAbove() {
        THE.holds("12: -1 if m has not defined such a class.", FOUR_MODULES + """
                above {0..7} {0..23} -> -1  # not yet, though they are held
                find 0 {0,1,8}
                above 0 8 -> -1             # found in 0, but 1 has defined it
                above 1 8 -> 9
                above {0..7} {0,1} -> -1    # the platform has
                above 8 {0,1} -> -1         # which is no module
                above BAD_MODULE 8 -> -1
                above 1 BAD_NAME -> -1
                find 0 5 -> IllegalStateException
                above 0 5 -> -1
                unload 1
                above 1 8 -> -1             # gone
                """);
    }

    private static void defined() {
        THE.holds("13: How many classes are defined", """
                defined -> 0                # none
                present {0..7}
                file {0..7} {2..23} NOTHING
                depend {0..7} OWN 0 0 optional
                load {0..7}
                defined -> 0                # held only
                find {0..7} {2..23}
                defined -> 176              # all that there can be
                unload 3 -> 22
                defined -> 154
                """);
        THE.holds("13: (those of the platform do not count)", FOUR_MODULES + """
                find {0..2} {0,1} -> 8
                defined -> 0
                find 0 9 -> 1               # extends one of them
                defined -> 1
                """);
    }
}
