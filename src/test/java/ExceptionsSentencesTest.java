/** The sentence of EXCEPTIONS on the order in which a call's exceptions are looked at. */
public final class ExceptionsSentencesTest {
    private static final Sentences THE = new Sentences("ExceptionsSentencesTest");

    public static void main(String[] args) {
        file();
        depend();
        loadAndUnload();
        find();
        THE.end();
    }

    private static void file() {
        THE.holds("EXCEPTIONS, the first that holds in the order that a call names: file of a loaded module", """
                present 0
                file 0 4 NOTHING
                load 0
                file 0 BAD_NAME NOTHING -> IllegalArgumentException
                file 0 {4,5} {-3,24} -> IllegalArgumentException
                file 0 {4,5} NOTHING -> IllegalStateException
                """);
        THE.holds("EXCEPTIONS, the first that holds in the order that a call names: file for a name that is held", """
                present 0
                file 0 4 NOTHING
                file 0 4 {-3,24} -> IllegalArgumentException
                file 0 4 {-2,23} -> IllegalStateException
                file 1 4 NOTHING -> IllegalArgumentException
                """);
    }

    private static void depend() {
        THE.holds("EXCEPTIONS, the first that holds in the order that a call names: depend of a module that has 6", """
                present 0
                depend 0 {OWN,1,2,3,4,5} 0 0 optional
                depend 0 {-2,0,8} 0 0 optional -> IllegalArgumentException
                depend 0 6 {-1,64} 0 optional -> IllegalArgumentException
                depend 0 6 0 {-1,64} optional -> IllegalArgumentException
                depend 0 OWN 64 64 optional -> IllegalArgumentException
                depend 0 6 0 0 optional -> IllegalStateException
                """);
        THE.holds("EXCEPTIONS, the first that holds in the order that a call names: depend of a loaded module", """
                present {0,1}
                load 0
                depend 0 {-2,0,8} 0 0 required -> IllegalArgumentException
                depend 0 {1,2} {-1,64} 0 required -> IllegalArgumentException
                depend 0 {1,2} 0 {-1,64} required -> IllegalArgumentException
                depend 0 {1,2} 0 0 required -> IllegalStateException
                """);
    }

    private static void loadAndUnload() {
        THE.holds("EXCEPTIONS, the first that holds in the order that a call names: load", """
                load {-1,8} -> IllegalArgumentException # none of which is loadable either
                load {0,7} -> NoSuchElementException
                """);
        THE.holds("EXCEPTIONS, the first that holds in the order that a call names: unload", """
                present {0,1}
                depend 0 1 0 0 required
                unload 1 -> IllegalArgumentException # required, but nothing is loaded
                load 0
                unload 1 -> IllegalStateException
                unload 2 -> IllegalArgumentException
                """);
    }

    private static void find() {
        THE.holds("EXCEPTIONS, the first that holds in the order that a call names: find", """
                present {0,1}
                file {0,1} 4 BROKEN
                depend {0,1} OWN 0 0 optional
                load 0
                find 1 4 -> IllegalArgumentException # could not be defined either
                find 1 5 -> IllegalArgumentException # would not be found either
                find 0 {-1,24} -> IllegalArgumentException
                find 0 5 -> NoSuchElementException
                find 0 4 -> IllegalStateException
                """);
    }
}
