/** The sentences of "What it is" and "Terms" that name a boundary case; EXCEPTIONS has a test of its own. */
public final class TermsSentencesTest {
    private static final Sentences THE = new Sentences("TermsSentencesTest");

    public static void main(String[] args) {
        calls();
        modulesAndNames();
        platform();
        dependencies();
        setsOfPaths();
        loadable();
        exportedRow();
        begunRows();
        visibleRow();
        toFind();
        toDefine();
        comingBack();
        atMostTen();
        THE.end();
    }

    private static void calls() {
        THE.holds("An object is used for at most 512 calls after it has been made", """
                times 511 present 8 -> IllegalArgumentException
                present 7 -> done           # the 512th, behind refused ones
                """ + withOneClass("times 507 find 0 4 -> 0")
                + withOneClass("times 507 visible 0 1 0 -> 0")
                + withOneClass("times 507 why 0 4 -> 0")
                + withOneClass("times 507 state 0 -> 3")
                + withOneClass("times 507 above 0 4 -> 9")
                + withOneClass("times 507 defined -> 1"));
        THE.holds("at most 512 calls: those that change something", """
                present 0
                times 511 present 0 -> IllegalStateException
                new
                present 0
                times 510 file 0 24 NOTHING -> IllegalArgumentException
                file 0 4 NOTHING -> done
                new
                present 0
                times 505 depend 0 0 0 0 optional -> IllegalArgumentException
                depend 0 {OWN,1,2,3,4} 0 0 optional
                depend 0 5 0 0 optional -> 6
                new
                present 0
                times 510 relink 0 -> 0
                depend 0 OWN 0 0 optional -> 1
                new
                present 0
                load 0 -> 1
                times 509 load 0 -> 0
                unload 0 -> 0
                """);
    }

    /** Five calls on a new object before the one given. */
    private static String withOneClass(String call) {
        return """
                new
                present 0
                file 0 4 NOTHING
                depend 0 OWN 0 0 optional
                load 0
                find 0 4
                """ + call + "\n";
    }

    private static void modulesAndNames() {
        THE.holds("MODULES 0 .. 7 are PRESENT or not (at first none is), and may be LOADED.", """
                state {0..7} -> 0
                present {0..7} -> done
                state {0..7} -> 2
                load {0..7} -> 1
                state {0..7} -> 3
                state {-1,8} -> -1
                """);
        THE.holds("A CLASS NAME is 4 * a path (0 .. 5) + a number 0 .. 3.", """
                present {0..5}
                depend {0..5} OWN 0 0 optional
                file 0 0 NOTHING            # the first name of each path
                file 1 4 NOTHING
                file 2 8 NOTHING
                file 3 12 NOTHING
                file 4 16 NOTHING
                file 5 20 NOTHING
                load {0..5}
                visible 0 0 0 -> 0
                visible 0 {1..5} 0 -> -1
                visible 1 1 0 -> 1
                visible 1 {0,2..5} 0 -> -1
                visible 2 2 0 -> 2
                visible 2 {0,1,3..5} 0 -> -1
                visible 3 3 0 -> 3
                visible 3 {0..2,4,5} 0 -> -1
                visible 4 4 0 -> 4
                visible 4 {0..3,5} 0 -> -1
                visible 5 5 0 -> 5
                visible 5 {0..4} 0 -> -1
                new
                present {0..5}
                depend {0..5} OWN 0 0 optional
                file 0 3 NOTHING            # the last name of each path
                file 1 7 NOTHING
                file 2 11 NOTHING
                file 3 15 NOTHING
                file 4 19 NOTHING
                file 5 23 NOTHING
                load {0..5}
                visible 0 0 0 -> 0
                visible 0 {1..5} 0 -> -1
                visible 1 1 0 -> 1
                visible 1 {0,2..5} 0 -> -1
                visible 2 2 0 -> 2
                visible 2 {0,1,3..5} 0 -> -1
                visible 3 3 0 -> 3
                visible 3 {0..2,4,5} 0 -> -1
                visible 4 4 0 -> 4
                visible 4 {0..3,5} 0 -> -1
                visible 5 5 0 -> 5
                visible 5 {0..4} 0 -> -1
                """);
        THE.holds("A present module HOLDS for some names a file", """
                present 0
                depend 0 OWN 0 0 optional
                load 0
                why 0 {2..23} -> 4          # none at all
                find 0 {2..23} -> NoSuchElementException
                unload 0
                file 0 {0..23} NOTHING
                load 0
                why 0 {0..23} -> 0          # all there are
                find 0 {2..23} -> 0
                """);
        THE.holds("A module HAS a path if it holds a name of that path.", """
                present {0..5}
                depend {0..5} OWN 0 0 optional
                file 1 4 NOTHING            # each of the four alone is enough
                file 2 5 NOTHING
                file 3 6 BROKEN             # one that is broken too
                file 4 7 23
                file 5 3 NOTHING            # just beside path 1
                file 5 8 NOTHING
                load {0..5}
                row 0 1 -> none
                row 1 1 -> 1
                row 2 1 -> 2
                row 3 1 -> 3
                row 4 1 -> 4
                row 5 1 -> none
                row 5 0 -> 5
                """);
    }

    private static void platform() {
        THE.holds("The PLATFORM holds the names 0 and 1, which extend nothing.", """
                present 0
                load 0
                find 0 {0,1} -> 8
                find 0 {2..23} -> NoSuchElementException
                why 0 {0,1} -> 0
                why 0 {2..23} -> 4
                row 0 0 -> none             # it is no module
                defined -> 0
                """);
    }

    private static void dependencies() {
        THE.holds("A present module has at most 6 DEPENDENCIES", """
                present 0
                depend 0 1 0 0 optional -> 1
                depend 0 1 0 0 optional -> 2
                depend 0 OWN 0 0 optional -> 3
                depend 0 OWN 0 0 required -> 4
                depend 0 7 ALL ALL required -> 5
                depend 0 7 ALL 0 optional -> 6
                depend 0 {OWN,1..7} 0 0 optional -> IllegalStateException
                relink 0 -> 6
                """);
        THE.holds("in the order in which they came", """
                present {0..6}
                file {0..6} 4 NOTHING
                depend {0..6} OWN 0 0 optional
                relink 0
                depend 0 {4,2,6,OWN,1,3} ALL 0 optional
                load 0
                row 0 1 -> 4,2,6,0,1,3
                """);
        THE.holds("each is OWN (on itself), or on another module, REQUIRED or not", """
                present {0..7}
                depend 0 0 0 0 optional -> IllegalArgumentException
                depend 7 7 0 0 required -> IllegalArgumentException
                depend 0 7 0 0 required -> 1
                depend 7 0 0 0 optional -> 1
                depend 0 OWN 0 0 required -> 2
                depend 7 OWN 0 0 optional -> 2
                load 7 -> 2
                unload 7 -> IllegalStateException
                unload 0 -> 0
                """);
    }

    private static void setsOfPaths() {
        String modules = """
                present {0..2}
                depend {1,2} OWN 0 0 optional
                file {1,2} {0,4,8,12,16,20} NOTHING
                load {0..2}
                """;
        THE.holds("with IMPORTS and EXPORTS, each a set of paths, as a number 0 .. 63", modules + """
                depend 0 1 0 ALL optional
                visible 0 {0..5} 0 -> -1    # empty
                relink 0
                depend 0 1 63 0 optional
                visible 0 {0..5} 0 -> 1     # full
                depend 1 2 63 0 optional
                visible 0 {0..5} 1 -> -1    # empty
                relink 1
                depend 1 2 63 63 optional
                visible 0 {0..5} 0 -> 2     # full
                """);
        THE.holds("with the bit of a path on if it is in it: imports of a visible row", modules
                + eachBit("depend 0 1 BIT 0 optional", 0));
        THE.holds("with the bit of a path on if it is in it: imports of an exported row", modules + """
                depend 0 1 ALL 0 optional
                relink 1
                """ + eachBit("depend 1 2 BIT ALL optional", 1).replace("-> 1", "-> 2"));
        THE.holds("with the bit of a path on if it is in it: exports", modules + """
                depend 0 1 ALL 0 optional
                relink 1
                """ + eachBit("depend 1 2 ALL BIT optional", 1).replace("-> 1", "-> 2"));
        THE.holds("(those of OWN say nothing)", """
                present {0..4}
                file {0..3} 8 NOTHING
                depend 0 OWN 0 0 optional
                depend 1 OWN ALL 0 required
                depend 2 OWN 0 ALL required
                depend 3 OWN ALL ALL optional
                depend 4 {0..3} ALL 0 optional
                load 4
                row 0 2 -> 0
                row 1 2 -> 1
                row 2 2 -> 2
                row 3 2 -> 3
                row 4 2 -> 0,1,2,3
                """);
    }

    /** The dependency once with each bit alone: the path of the bit is let through, and no other. */
    private static String eachBit(String depend, int ofModule) {
        StringBuilder run = new StringBuilder();
        for (int path = 0; path < 6; path++) {
            run.append(depend.replace("BIT", "" + (1 << path))).append('\n');
            for (int seen = 0; seen < 6; seen++) {
                run.append("visible 0 ").append(seen).append(seen == path ? " 0 -> 1\n" : " 0 -> -1\n");
            }
            run.append("relink ").append(ofModule).append('\n');
        }
        return run.toString();
    }

    private static void loadable() {
        THE.holds("A module is LOADABLE if it is present", """
                state {0..7} -> 0
                load {0..7} -> NoSuchElementException
                present {0,7}
                state {0,7} -> 2
                state {1..6} -> 0
                load {1..6} -> NoSuchElementException
                load {0,7} -> 1
                """);
        THE.holds("and each module of a required dependency of it is loadable", """
                present {0..4}
                depend 0 {1,2} 0 0 required
                state 0 -> 2
                depend 2 5 0 0 required     # the last of two lacks one that is not present
                state {0,2} -> 1
                state 1 -> 2
                depend 3 {2,5} 0 0 optional # those that are not required do not count
                state 3 -> 2
                depend 4 0 0 0 required     # over several
                state 4 -> 1
                present 5
                state {0..5} -> 2
                """);
        THE.holds("circles do not hinder", """
                present {0..7}
                depend 0 OWN 0 0 required   # a circle of one
                depend 1 2 0 0 required     # of two
                depend 2 1 0 0 required
                depend 3 4 0 0 required     # of five
                depend 4 5 0 0 required
                depend 5 6 0 0 required
                depend 6 7 0 0 required
                depend 7 3 0 0 required
                state {0..7} -> 2
                load 0 -> 1
                load 1 -> 2
                load 5 -> 5
                """);
        THE.holds("the set of loadable modules is the greatest for which this holds", """
                present {0..6}
                depend 0 1 0 0 required     # a circle of seven that lacks 7
                depend 1 2 0 0 required
                depend 2 3 0 0 required
                depend 3 4 0 0 required
                depend 4 5 0 0 required
                depend 5 6 0 0 required
                depend 6 0 0 0 required
                state {0..6} -> 2
                depend 6 7 0 0 required
                state {0..6} -> 1
                present 7
                depend 7 0 0 0 required
                state {0..7} -> 2           # all eight
                load 3 -> 8
                new
                present {1..7}              # a row that falls from its far end
                depend 7 6 0 0 required
                depend 6 5 0 0 required
                depend 5 4 0 0 required
                depend 4 3 0 0 required
                depend 3 2 0 0 required
                depend 2 1 0 0 required
                state {1..7} -> 2
                depend 1 0 0 0 required
                state {1..7} -> 1
                """);
    }

    private static void exportedRow() {
        THE.holds("for each dependency of D in its order: OWN: D, if it has p", """
                present {0..4}
                file {1,2,4} 4 NOTHING
                file 3 8 NOTHING
                depend 1 2 ALL ALL optional
                depend 1 OWN 0 0 optional   # behind the other
                depend {2,3} OWN 0 0 optional
                depend 0 {1,3,4} ALL 0 optional
                load 0
                row 0 1 -> 2,1              # 3 has not the path, 4 has no OWN
                """);
        THE.holds("on a loaded module E, if p is in its imports and in its exports: the exported row of E for p", """
                present {0..3}
                file {1..3} {4,8,12,16} NOTHING
                depend {1..3} OWN 0 0 optional
                depend 0 1 ALL 0 optional
                depend 1 2 6 10 optional    # path 1 in both, 2 in imports, 3 in exports, 4 in neither
                depend 2 3 ALL ALL optional
                load 0
                row 0 1 -> 1,2,3
                row 0 2 -> 1
                row 0 3 -> 1
                row 0 4 -> 1
                unload 3
                row 0 1 -> 1,2
                unload 2
                row 0 1 -> 1                # not over 2, which is not loaded
                load 3
                row 0 1 -> 1
                """);
    }

    private static void begunRows() {
        THE.holds("The row of a module that was begun already for this path is not gone through again", """
                present {0..3}
                file {0..3} {4,8} NOTHING
                depend 0 1 ALL ALL optional # 1 and 2 come back to one another, 3 to both
                depend 1 2 ALL ALL optional
                depend 2 {1,3} ALL ALL optional
                depend 3 {2,1} ALL ALL optional
                depend {0..3} OWN 0 0 optional
                load 0
                row 0 1 -> 3,2,1,0
                row 0 2 -> 3,2,1,0          # for another path nothing is begun yet
                row 0 1 -> 3,2,1,0          # nor for the same one in a later call
                row 3 1 -> 1,3,2
                """);
        THE.holds("and a module is in the row only once, at its first place", """
                present {0..4}
                file {0..4} 23 NOTHING
                depend 0 OWN 0 0 optional
                depend 0 {1,2,3} ALL 0 optional
                depend 0 OWN 0 0 optional
                depend {1,2} 4 ALL ALL optional
                depend {1..4} OWN 0 0 optional
                depend {1..4} OWN 0 0 optional
                load 0
                row 0 5 -> 0,4,1,2,3
                depend 0 4 ALL 0 optional
                row 0 5 -> 0,4,1,2,3
                row 1 5 -> 4,1
                """);
    }

    private static void visibleRow() {
        THE.holds("VISIBLE row of a loaded module M for p: for each dependency in its order: OWN: M, if it has p", """
                present {0,1}
                file {0,1} 4 NOTHING
                depend 1 OWN 0 0 optional
                load {0,1}
                row 0 1 -> none             # no dependency at all
                depend 0 1 ALL 0 optional
                row 0 1 -> 1                # no OWN
                depend 0 OWN 0 0 optional
                row 0 1 -> 1,0
                row 0 2 -> none             # it has not the path
                """);
        THE.holds("on a loaded module D, if p is in its imports: the exported row of D", """
                present {0..2}
                file {1,2} {4,8,12,16} NOTHING
                depend {1,2} OWN 0 0 optional
                depend 0 1 6 10 optional    # the exports of M's own dependency do not count
                load 0
                row 0 1 -> 1
                row 0 2 -> 1
                row 0 3 -> none
                row 0 4 -> none
                depend 0 2 ALL 0 optional
                row 0 1 -> 1                # 2 is not loaded
                load 2
                row 0 1 -> 1,2
                unload 1
                row 0 1 -> 2
                """);
        THE.holds("of which also nothing is gone through twice in all", """
                present {0..3}
                file {0..3} 4 NOTHING
                depend {1,2} 3 ALL ALL optional
                depend {1..3} OWN 0 0 optional
                depend 0 {1,2,3,1} ALL 0 optional
                load 0
                row 0 1 -> 3,1,2
                """);
        THE.holds("M's own exported row counting as not begun", """
                present {0..3}
                file {0..3} 4 NOTHING
                depend 0 1 ALL 0 optional
                depend 0 2 ALL ALL optional # comes by M's exported row, before 1 itself
                depend 0 OWN 0 0 optional
                depend 1 {0,OWN} ALL ALL optional
                depend 2 OWN 0 0 optional
                load 0
                row 0 1 -> 2,0,1
                new
                present {0..3}              # it is begun once, and then counts as begun
                file {0..3} 4 NOTHING
                depend 0 {1,2} ALL 0 optional
                depend 0 OWN 0 0 optional
                depend 0 3 ALL ALL optional
                depend {1,2} OWN 0 0 optional
                depend {1,2} 0 ALL ALL optional
                depend 3 OWN 0 0 optional
                load 0
                row 0 1 -> 1,0,3,2
                new
                present {0..7}              # at the end of the longest way there is
                file {0..7} 4 NOTHING
                depend 0 1 ALL ALL optional
                depend 1 2 ALL ALL optional
                depend 2 3 ALL ALL optional
                depend 3 4 ALL ALL optional
                depend 4 5 ALL ALL optional
                depend 5 6 ALL ALL optional
                depend 6 7 ALL ALL optional
                depend 7 0 ALL ALL optional
                depend {0..7} OWN 0 0 optional
                load 0
                row 0 1 -> 0,7,6,5,4,3,2,1
                row 4 1 -> 4,3,2,1,0,7,6,5
                """);
    }

    private static void toFind() {
        THE.holds("if p is 0 and the platform holds it, the platform has it", """
                present 0
                file 0 {0..3} NOTHING
                depend 0 OWN 0 0 optional
                load 0
                find 0 {0,1} -> 8           # before the module's own
                find 0 {2,3} -> 0           # of path 0, but the platform does not hold them
                find 0 {4,5,8,9,12,13,16,17,20,21} -> NoSuchElementException
                above 0 {0,1} -> -1
                defined -> 2
                """);
        THE.holds("else the first module of the visible row of M for p that holds it", """
                present {0..3}
                file 1 5 NOTHING            # has the path, but not the name
                file {2,3} 4 NOTHING
                file {1..3} 6 NOTHING
                file 3 7 NOTHING
                depend {1..3} OWN 0 0 optional
                depend 0 {1..3} ALL 0 optional
                load 0
                row 0 1 -> 1,2,3
                find 0 4 -> 2
                find 0 5 -> 1
                find 0 6 -> 1
                find 0 7 -> 3               # the last
                """);
    }

    private static void toDefine() {
        THE.holds("if L has DEFINED it already, it is that", """
                present {0..2}
                file 0 4 8
                file {1,2} 8 NOTHING
                depend {1,2} OWN 0 0 optional
                depend 0 {OWN,1} ALL 0 optional
                load {0,2}
                find 0 4 -> 0
                above 0 4 -> 1
                defined -> 2
                find 0 4 -> 0
                relink 0
                depend 0 {2,OWN} ALL 0 optional
                find 0 4 -> 0               # its 8 would be 2's now
                above 0 4 -> 1
                relink 0
                depend 0 OWN 0 0 optional
                find 0 4 -> 0               # its 8 would not be found now
                defined -> 2
                """);
        THE.holds("else its file must not be broken", """
                present 0
                file 0 4 BROKEN
                file 0 5 4
                depend 0 OWN 0 0 optional
                load 0
                find 0 {4,5} -> IllegalStateException
                defined -> 0
                """);
        THE.holds("and if it extends a name, that must be found in L", """
                present {0..2}
                file 0 8 NOTHING
                file 1 4 8
                file 1 5 2
                file 2 8 NOTHING
                depend {0..2} OWN 0 0 optional
                depend 0 1 ALL 0 optional
                load {0..2}
                find 0 4 -> IllegalStateException # 8 is found in 0, which asks, but not in 1
                find 0 5 -> IllegalStateException # 2 is not the platform's
                depend 1 2 4 0 optional
                find 0 4 -> 1
                above 1 4 -> 2
                above 0 8 -> -1
                """);
        THE.holds("and the class that is found be defined (by the platform it always is)", """
                present 0
                file 0 0 BROKEN             # not the one that is found
                file 0 4 0
                file 0 5 1
                file 0 6 4
                depend 0 OWN 0 0 optional
                load 0
                find 0 6 -> 0
                above 0 6 -> 0
                above 0 4 -> 8
                defined -> 2
                find 0 5 -> 0
                above 0 5 -> 8
                relink 0
                find 0 {0,1} -> 8
                """);
    }

    private static void comingBack() {
        THE.holds("without coming back to a class that is just being defined", """
                present {0..2}
                file 0 4 4                  # to itself
                file 0 8 9                  # by one other
                file 0 9 8
                file 0 10 8                 # into a circle from outside
                file 0 12 13                # by two others, over modules
                file 1 13 14
                file 2 14 12
                depend 0 {OWN,1} ALL 0 optional
                depend 1 {OWN,2} ALL 0 optional
                depend 2 {OWN,0} ALL 0 optional
                load 0
                find 0 {4,8,9,10,12} -> IllegalStateException
                find 1 {13,14} -> IllegalStateException
                defined -> 0
                """);
        THE.holds("coming back to a class: the same name of another module is another class", """
                present {0..2}
                file 0 4 5
                file 1 5 4
                file 2 4 NOTHING
                depend 0 {OWN,1} ALL 0 optional
                depend 1 {OWN,2} ALL 0 optional
                depend 2 OWN 0 0 optional
                load 0
                find 0 4 -> 0
                above 0 4 -> 1
                above 1 5 -> 2
                above 2 4 -> 9
                defined -> 3
                """);
    }

    private static void atMostTen() {
        THE.holds("and with at most 10 classes being defined at once (each for the one before)", """
                present 0
                depend 0 OWN 0 0 optional
                file 0 2 3
                file 0 3 4
                file 0 4 5
                file 0 5 6
                file 0 6 7
                file 0 7 8
                file 0 8 9
                file 0 9 10
                file 0 10 11
                file 0 11 12
                file 0 12 13
                file 0 13 NOTHING
                load 0
                find 0 {2,3} -> IllegalStateException # twelve, eleven
                defined -> 0
                find 0 4 -> 0               # ten
                defined -> 10
                find 0 2 -> 0               # what was defined before does not count
                defined -> 12
                new
                present 0
                depend 0 OWN 0 0 optional
                file 0 2 3
                file 0 3 4
                file 0 4 5
                file 0 5 6
                file 0 6 7
                file 0 7 8
                file 0 8 9
                file 0 9 10
                file 0 10 11
                file 0 11 12
                file 0 12 0                 # nor does the platform's
                load 0
                find 0 2 -> IllegalStateException
                find 0 3 -> 0
                defined -> 10
                unload 0 -> 10
                load 0
                find 0 2 -> IllegalStateException # what is gone counts again
                """);
        THE.holds("at most 10 classes in all modules together", """
                present {0,1}
                depend 0 {OWN,1} ALL 0 optional
                depend 1 {OWN,0} ALL 0 optional
                file 0 4 5
                file 1 5 6
                file 0 6 7
                file 1 7 8
                file 0 8 9
                file 1 9 10
                file 0 10 11
                file 1 11 12
                file 0 12 13
                file 1 13 14
                file 0 14 NOTHING
                load 0
                find 0 4 -> IllegalStateException
                find 0 5 -> 1
                defined -> 10
                above 1 13 -> 0
                find 0 4 -> 0
                """);
    }
}
