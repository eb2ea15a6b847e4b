/** The boundary cases of LINKING and VERDICTS and of the promises 26 to 30, sentence by sentence. */
public final class EdgesOfLinkingTest {
    private static final Edge EDGE = new Edge("EdgesOfLinkingTest");

    /** A client of each use for class 3 (or interface 2) in package 2, with the numbers 3 to 8. */
    private static final String ALL_USES = "setMember(0, 4, 1, 0); addClient(0, 3, 0, 2) -> 3; "
            + "addClient(1, 3, 0, 2) -> 4; draft(-1, 0, 0, 0); addClient(2, 3, 0, 2) -> 5; addClient(3, 3, 0, 2) -> 6; "
            + "addClient(4, 3, 0, 2) -> 7; addClient(5, 2, 0, 2) -> 8; copyVersion();";
    private static final String NOBODY = Edge.repeat(3, "removeClient(0)");
    private static final String TWELVE = Edge.repeat(9, "addClient(3, 1, 0, 0)");

    public static void main(String[] args) {
        keptSymbols();
        classErrors();
        fields();
        calls();
        selectedForCalls();
        creating();
        extending();
        implementing();
        link();
        targets();
        target();
        verdicts();
        verdict();
        count();
        sampleOrder();
        sampleAnswers();
        sampleRefused();
        EDGE.end();
    }

    private static void keptSymbols() {
        EDGE.term("When a client is added, it is compiled with version 0, and this symbol is kept.");
        EDGE.runs("""
                setMember(0, 1, 2, 50); clientInfo(0, 7) -> 7; addClient(0, 3, 1, 2) -> 3; clientInfo(3, 7) -> 50
                setMember(1, 1, 2, 50); addClient(0, 3, 1, 2) -> 3; clientInfo(3, 7) -> 7
                addClient(0, 3, 0, 2) -> 3; setMember(0, 0, 1, 1); clientInfo(3, 9) -> 0; link(3, 0) -> 5; \
                    link(3, 1) -> 0
                """);

        EDGE.term("If the symbol is a constant value, there is no error.");
        EDGE.runs("""
                removeClass(1, 3); link(0, 1) -> 0
                setClass(1, 3, 0, 0); link(0, 1) -> 0
                removeMember(1, 1); link(0, 1) -> 0
                setMember(1, 1, 0, 0); link(0, 1) -> 0
                setMember(1, 1, 1, 0); link(0, 1) -> 0
                // Also where the field of the old version lost its constant value behind the compiling.
                setMember(0, 1, 2, NONE); removeMember(0, 1); link(0, 0) -> 0; compile(0, 0) -> 3
                """);
    }

    private static void classErrors() {
        EDGE.term("1 there is no class c; 2 class c is not open to the client; then by the use:");
        EDGE.runs(ALL_USES, """
                link({3..8}, {0 1}) -> 0
                removeClass(1, 3); link({3..7}, 1) -> 1; link(8, 1) -> 0; link({3..8}, 0) -> 0
                setClass(1, 3, 0, 0); link({3..7}, 1) -> 2; link(8, 1) -> 0; link({3..8}, 0) -> 0
                setClass(1, 3, 0, 0); setClass(1, 3, 3, 2); link({3..7}, 1) -> 0
                removeClass(1, 3); removeClass(1, 2); link(8, 1) -> 1
                setClass(1, 2, 0, 0); link(8, 1) -> 2
                // Before whatever else is wrong.
                setClass(1, 3, 0, 0); removeMember(1, 0); link({3 4}, 1) -> 2
                setClass(1, 3, 0, 0); setMember(1, 0, 1, 1); link({3 4}, 1) -> 2
                setClass(1, 3, 0, 0); removeMember(1, 6); removeMember(1, 2); link(5, 1) -> 2
                setClass(1, 3, 0, 0); setClass(1, 3, 2, 1); setClass(1, 3, 1, 1); link({6 7}, 1) -> 2
                setClass(1, 3, 0, 0); setMember(1, 4, 1, 4); removeMember(1, 5); link(7, 1) -> 2
                setClass(1, 2, 0, 0); setMember(1, 4, 1, 4); link(8, 1) -> 2
                removeClass(1, 3); define(1, 3, true, 0, 0); link({3..7}, 1) -> 2
                removeClass(1, 3); removeClass(1, 2); define(1, 2, false, 0, 0); link(8, 1) -> 2
                """);
    }

    private static void fields() {
        EDGE.term("0, 1: 3 there is no field of c for the name and type of the symbol; 2 it is not open; 5 it is "
                + "static, and the field of the symbol was not, or the other way round; for 1: 2 it is final.");
        EDGE.runs(ALL_USES, """
                removeMember(1, 0); link({3 4}, 1) -> 3
                removeMember(1, 0); draft({0..9}, 0, 0, 0); addField(1, 3, 0, 3, 0); link({3 4}, 1) -> 3
                removeMember(1, 0); addField(1, 3, 0, 3, 0); link({3 4}, 1) -> 0
                // A field of another type in front of it is passed over.
                draft({0..9}, 0, 0, 0); addField(1, 3, 0, {0..3}, {0..3 }); link({3 4}, 1) -> 0; target({3 4}, 1) -> 1
                setMember(1, 0, 0, {0 1 2}); link({3 4}, 1) -> 2
                setMember(1, 0, 1, {1 3}); link({3 4}, 1) -> 5
                setMember(1, 0, 1, {1 3}); setMember(1, 0, 0, {0 1 2}); link({3 4}, 1) -> 2
                setMember(1, 0, 1, 2); link(3, 1) -> 0; link(4, 1) -> 2
                // The field that is found counts, even where one behind it would do.
                addField(1, 3, 0, {0 1 2}, 0); link({3 4}, 1) -> 2
                addField(1, 3, 0, 3, 1); link({3 4}, 1) -> 5
                addField(1, 2, 0, 3, 3); link({3 4}, 1) -> 5
                """);
        EDGE.runs("setMember(0, 0, 1, 1); addClient({0 1}, 3, 0, 2) -> 3; copyVersion();", """
                // The other way round.
                link(3, 1) -> 0; setMember(1, 0, 1, {0 2}); link(3, 1) -> 5
                """);
        EDGE.runs("setMember(0, 0, 1, 3); addClient(0, 3, 0, 2) -> 3; copyVersion();", """
                // A constant value in the new version alone does not matter to linking.
                setMember(1, 0, 2, 5); link(3, 1) -> 0; target(3, 1) -> 1
                """);
    }

    private static void calls() {
        EDGE.term("2: 5 c is an interface, and was none in the symbol, or the other way round; 4 there is no method of "
                + "c for the name and descriptor of the symbol; 2 it is private or not open; 5 it is static, and the "
                + "method of the symbol was not, or the other way round; 6 c is a plain class and not abstract, the "
                + "method is not static, and the selected method for it and c is abstract or does not exist.");
        EDGE.runs(ALL_USES, """
                removeClass(1, 3); define(1, 3, true, 0, 0); setClass(1, 3, 0, 1); link(5, 1) -> 5; \
                    addMethod(1, 3, 0, 3, {0 1 4}); link(5, 1) -> 5
                removeMember(1, 6); link(5, 1) -> 0; removeMember(1, 2); link(5, 1) -> 4
                removeMember(1, 6); removeMember(1, 2); draft({0..9}, 0, 0, 0); addMethod(1, 3, 0, 3, 0); \
                    link(5, 1) -> 4
                removeMember(1, 6); removeMember(1, 2); draft(-1, {1 2}, 1, 1); addMethod(1, 3, 0, 3, 0); \
                    link(5, 1) -> 4
                setMember(1, 6, 0, {0 1 2}); link(5, 1) -> 2
                setMember(1, 6, 1, {1 3}); link(5, 1) -> 5
                setMember(1, 6, 1, {1 3}); setMember(1, 6, 0, {0 1 2}); link(5, 1) -> 2
                setMember(1, 6, 1, 2); link(5, 1) -> 0
                """);
        EDGE.runs("setMember(0, 4, 1, {0 1}); draft(1, 0, 0, 0); addClient(2, 2, 2, 2) -> 3; copyVersion();", """
                // The other way round: an interface that becomes a plain class.
                link(3, 1) -> 0
                removeClass(1, 3); removeClass(1, 2); define(1, 2, false, 0, 0); setClass(1, 2, 0, 1); \
                    link(3, 1) -> 5; addMethod(1, 2, 2, 3, {0 1}); link(3, 1) -> 5
                """);
        EDGE.runs("setMember(0, 6, 1, 1); addClient(2, 3, 0, 2) -> 3; copyVersion();", """
                // The other way round: a static method that is static no more.
                link(3, 1) -> 0; setMember(1, 6, 1, 0); link(3, 1) -> 5
                """);
    }

    private static void selectedForCalls() {
        EDGE.runs("""
                // Client 1 calls method 2 of class 3, which stands in interface 2 too.
                removeMember(1, 5); link(1, 1) -> 6; setMember(1, 4, 1, 0); link(1, 1) -> 0; setMember(1, 4, 1, 1); \
                    link(1, 1) -> 4
                setClass(1, 3, 2, 1); removeMember(1, 5); link(1, 1) -> 0; target(1, 1) -> 2
                setClass(1, 3, 2, 1); setMember(1, 5, 1, 4); link(1, 1) -> 0; target(1, 1) -> 3
                setClass(1, 1, 2, 1); moveMember(1, 5, 1); setMember(1, 5, 1, 4); link(1, 1) -> 6
                setClass(1, 1, 2, 1); moveMember(1, 5, 1); link(1, 1) -> 0; target(1, 1) -> 1
                // An interface may be asked for its abstract method.
                draft(1, 0, 0, 0); addClient(2, 2, 2, 2) -> 3; link(3, {0 1}) -> 0; target(3, 1) -> 2
                // A static method is not selected, so it can't be missing.
                setMember(0, 6, 1, 1); addClient(2, 3, 0, 2) -> 3; link(3, 0) -> 0; target(3, 0) -> 3
                """);
        EDGE.runs("define(0, 5, true, 0, 4); define(0, 6, true, 0, 4); define(0, 7, false, 0, 96); "
                + "setClass(0, 7, 0, 1); draft(1, 0, 0, 0); addMethod(0, 5, 2, 3, 0) -> 8; addClient(2, 7, 2, 2) -> 3; "
                + "copyVersion();", """
                // Two defaults: a method is found, but none is selected.
                link(3, 1) -> 0; target(3, 1) -> 5; addMethod(1, 6, 2, 3, 0) -> 9; method(1, 7, 2) -> 8; \
                    link(3, 1) -> 6; target(3, 1) -> NONE; verdict(3) -> 2; setClass(1, 7, 2, 1); link(3, 1) -> 0; \
                    target(3, 1) -> 5
                addMethod(1, 6, 2, 3, 4) -> 9; link(3, 1) -> 0; target(3, 1) -> 5
                // The method that is found may be another than the one that is selected.
                addMethod(1, 7, 2, 3, 0) -> 9; link(3, 1) -> 0; target(3, 1) -> 7
                """);
    }

    private static void creating() {
        EDGE.term("3: 7 c is abstract.");
        EDGE.runs(ALL_USES, """
                setClass(1, 3, 2, 1); link(6, 1) -> 7; link(6, 0) -> 0
                removeClass(1, 3); define(1, 3, true, 0, 0); setClass(1, 3, 0, 1); link(6, 1) -> 7
                setClass(1, 3, 1, 1); link(6, 1) -> 0
                setMember(1, 4, 1, 4); removeMember(1, 5); classInfo(1, 3, 9) -> 1; link(6, 1) -> 0
                """);
    }

    private static void extending() {
        EDGE.term("4: 5 c is an interface or final; 6 c is incomplete.");
        EDGE.runs(ALL_USES, """
                setClass(1, 3, 1, 1); link(7, 1) -> 5; link(7, 0) -> 0
                removeClass(1, 3); define(1, 3, true, 0, 0); setClass(1, 3, 0, 1); link(7, 1) -> 5
                setMember(1, 4, 1, 4); link(7, 1) -> 0; removeMember(1, 5); link(7, 1) -> 6; setClass(1, 3, 1, 1); \
                    link(7, 1) -> 5
                setClass(1, 3, 2, 1); link(7, 1) -> 0; addMethod(1, 3, 5, 3, 4); link(7, 1) -> 6
                // The base is not used.
                setBase(7, 4); removeClass(1, 4); link(7, 1) -> 0
                setBase(7, 4); setClass(1, 4, 1, 1); link(7, 1) -> 0
                """);
    }

    private static void implementing() {
        EDGE.term("5: 5 c is no interface; 1 the base does not exist; 2 the base is not open to the client; 5 the base "
                + "is an interface or final; 6 as 7 of compiling.");
        EDGE.runs(ALL_USES + "setBase(8, 4);", """
                link(8, {0 1}) -> 0
                removeClass(1, 3); removeClass(1, 2); define(1, 2, false, 0, 0); setClass(1, 2, 0, 1); \
                    link(8, 1) -> 5; removeClass(1, 4); link(8, 1) -> 5
                removeClass(1, 3); removeClass(1, 2); define(1, 2, false, 0, 0); setClass(1, 2, 0, 1); \
                    setClass(1, 4, 0, 0); link(8, 1) -> 5
                removeClass(1, 4); link(8, 1) -> 1; link(8, 0) -> 0
                setClass(1, 4, 0, 0); link(8, 1) -> 2; setClass(1, 4, 3, 2); link(8, 1) -> 0
                setClass(1, 4, 1, 1); link(8, 1) -> 5; setClass(1, 4, 0, 0); link(8, 1) -> 2
                removeClass(1, 4); define(1, 4, true, 0, 0); link(8, 1) -> 2; setClass(1, 4, 0, 1); link(8, 1) -> 5
                setMember(1, 4, 1, 4); link(8, 1) -> 6; setClass(1, 4, 1, 1); link(8, 1) -> 5
                setMember(1, 4, 1, 4); link(8, 1) -> 6; setClass(1, 4, 0, 0); link(8, 1) -> 2
                setMember(1, 4, 1, 4); link(8, 1) -> 6; removeClass(1, 4); link(8, 1) -> 1
                setMember(1, 4, 1, 4); draft(1, 0, 0, 0); addMethod(1, {1 4}, 2, {1 2 3}, 0); link(8, 1) -> 0
                setMember(1, 4, 1, 4); draft(1, 0, 0, 0); addMethod(1, {1 4}, 2, 0, 0); link(8, 1) -> 6
                setMember(1, 4, 1, 4); draft(1, 0, 0, 0); addMethod(1, {1 4}, 2, 3, 1); link(8, 1) -> 6
                draft(1, 0, 0, 0); addMethod(1, 4, 2, 3, 4); link(8, 1) -> 6
                """);
        EDGE.runs("define(0, 5, true, 0, 0); define(0, 6, true, 0, 0); define(0, 9, false, 0, 96); "
                + "setClass(0, 9, 0, 1); setMember(0, 4, 1, 0); addClient(5, 2, 0, 2) -> 3; setBase(3, 9); "
                + "copyVersion(); draft(1, 0, 0, 0);", """
                setMember(1, 4, 1, 4); link(3, 1) -> 6; addMethod(1, 5, 2, 3, 0) -> 8; link(3, 1) -> 0; \
                    addMethod(1, 6, 2, 3, 0) -> 9; link(3, 1) -> 6
                """);
    }

    private static void link() {
        EDGE.promise(26, "Returns the error, 1 to 7; 0 if there is none.");
        EDGE.runs("link({0 1 2}, {0 1}) -> 0");

        EDGE.promise(26, "Throws IndexOutOfBoundsException if there is no such client or version");
        EDGE.runs("""
                link({outside 0 2}, {0 1}) -> index
                link({0 1 2}, {outside 0 1}) -> index
                """);
        EDGE.runs(NOBODY, "link({-1 0}, {0 1}) -> index");
        EDGE.runs(TWELVE, "link(11, {0 1}) -> 0; link(12, {0 1}) -> index");
    }

    private static void targets() {
        EDGE.term("The target of a client in a version is the number of the class of the field or method that is found "
                + "when it is linked without an error, for the uses 0 to 2.");
        EDGE.runs(ALL_USES, """
                target({3 4}, {0 1}) -> 1; target(5, {0 1}) -> 3; target({6 7 8}, {0 1}) -> NONE
                removeMember(1, 6); target(5, 1) -> 1; target(5, 0) -> 3
                moveMember(1, 0, 3); target({3 4}, 1) -> 3; target({3 4}, 0) -> 1
                """);

        EDGE.promise(27, "Returns the class; NONE if there is none (an error, a constant value, or one of the uses 3 "
                + "to 5).");
        EDGE.runs(ALL_USES, """
                removeClass(1, 3); target({3..7}, 1) -> NONE
                setClass(1, 3, 0, 0); target({3..7}, 1) -> NONE
                setMember(1, 0, 0, 0); target({3 4}, 1) -> NONE
                setMember(1, 0, 1, 1); target({3 4}, 1) -> NONE
                setMember(1, 0, 1, 2); target(3, 1) -> 1; target(4, 1) -> NONE
                setMember(1, 6, 1, 1); target(5, 1) -> NONE
                target(0, {0 1}) -> NONE
                """);
    }

    private static void target() {
        EDGE.promise(27, "Throws IndexOutOfBoundsException if there is no such client or version");
        EDGE.runs("""
                target({outside 0 2}, {0 1}) -> index
                target({0 1 2}, {outside 0 1}) -> index
                """);
        EDGE.runs(NOBODY, "target({-1 0}, {0 1}) -> index");
        EDGE.runs(TWELVE, "target(11, {0 1}) -> NONE; target(12, {0 1}) -> index");
    }

    private static void verdicts() {
        EDGE.term("1 (linking) linking with version 1 gives an error other than 6; 2 (running) it gives the error 6");
        EDGE.runs(ALL_USES, """
                // The errors 1, 2, 3, 4, 5 and 7, and 6; compiling gives an error too then.
                removeClass(1, 3); link(3, 1) -> 1; compile(3, 1) -> 1; verdict({3..7}) -> 1
                setClass(1, 3, 0, 0); link(3, 1) -> 2; compile(3, 1) -> 2; verdict({3..7}) -> 1
                removeMember(1, 0); link(3, 1) -> 3; compile(3, 1) -> 3; verdict({3 4}) -> 1
                removeMember(1, 6); removeMember(1, 2); link(5, 1) -> 4; verdict(5) -> 1
                setMember(1, 0, 1, 1); link(3, 1) -> 5; compile(3, 1) -> 0; verdict({3 4}) -> 1
                setClass(1, 3, 2, 1); link(6, 1) -> 7; compile(6, 1) -> 6; verdict(6) -> 1
                setMember(1, 4, 1, 4); link(8, 1) -> 6; compile(8, 1) -> 7; verdict(8) -> 2
                setMember(1, 4, 1, 4); removeMember(1, 5); link(7, 1) -> 6; compile(7, 1) -> 7; verdict(7) -> 2; \
                    link(1, 1) -> 6; compile(1, 1) -> 0; verdict(1) -> 2
                """);

        EDGE.term("3 (compiling) compiling with version 1 gives an error");
        EDGE.runs("""
                removeClass(1, 3); verdict(0) -> 3
                setClass(1, 3, 0, 0); verdict(0) -> 3
                removeMember(1, 1); verdict(0) -> 3
                setMember(1, 1, 0, 0); verdict(0) -> 3
                // Not the error of version 0.
                removeMember(0, 1); compile(0, 0) -> 3; verdict(0) -> 0
                addClient(0, 3, 0, 2) -> 3; draft(4, 0, 0, 0); addField(1, 3, 0, {0 1 2}, 0); link(3, 1) -> 0; \
                    compile(3, 1) -> 5; verdict(3) -> 3
                """);

        EDGE.term("4 (silent) compiling with version 1 gives a symbol that differs from the one that is kept");
        EDGE.runs("""
                setMember(1, 1, 2, {6 8 NONE}); verdict(0) -> 4
                // The symbol that is kept counts, not what version 0 gives now.
                setMember(0, 1, 2, 8); verdict(0) -> 0; setMember(1, 1, 2, 8); verdict(0) -> 4
                addClient(0, 3, 0, 2) -> 3; draft(4, 0, 0, 0); addField(1, 3, 0, 3, {0..3}); verdict(3) -> 4
                // Where both 4 and 5 apply, 4 comes first.
                addClient(0, 3, 0, 2) -> 3; draft(4, 0, 0, 0); addField(1, 3, 0, 3, 0); removeMember(0, 0); \
                    link(3, 0) -> 3; verdict(3) -> 4
                """);

        EDGE.term("5 (moved) the targets in the versions 0 and 1 differ, or linking with version 0 gives an error now; "
                + "0 none of these");
        EDGE.runs(ALL_USES, """
                verdict({0..8}) -> 0
                moveMember(1, 0, 3); verdict({3 4}) -> 5
                removeMember(1, 6); verdict(5) -> 5
                removeMember(0, 6); verdict(5) -> 5
                // Both have no target, but version 0 gives an error now.
                setClass(0, 3, 2, 1); link(6, 0) -> 7; verdict(6) -> 5
                setClass(0, 3, 1, 1); link(7, 0) -> 5; verdict(7) -> 5
                setMember(0, 4, 1, 4); link(8, 0) -> 6; verdict(8) -> 5
                removeClass(0, 3); verdict({3..7}) -> 5; verdict({0 8}) -> 0
                // Where the new version has an error, that comes first.
                removeClass(0, 3); removeClass(1, 3); verdict({3..7}) -> 1; verdict(0) -> 3
                """);
    }

    private static void verdict() {
        EDGE.promise(28, "Throws IndexOutOfBoundsException if there is no such client");
        EDGE.runs("verdict({outside 0 2}) -> index");
        EDGE.runs(NOBODY, "verdict({-1 0}) -> index");
        EDGE.runs(TWELVE, "verdict(11) -> 0; verdict(12) -> index");
    }

    private static void count() {
        EDGE.promise(29, "Returns how many there are.");
        EDGE.runs("count(0) -> 3; count({1..5}) -> 0");
        EDGE.runs(NOBODY, "count({0..5}) -> 0");
        EDGE.runs(TWELVE, "count(0) -> 12; count({1..5}) -> 0; setClass(1, 1, 2, 1); count(1) -> 9; count(0) -> 3");
        EDGE.runs(ALL_USES, """
                setMember(1, 1, 2, 8); count(4) -> 1; removeMember(1, 6); count(5) -> 1; setMember(1, 4, 1, 4); \
                    count(2) -> 1; setMember(1, 0, 1, 2); count(1) -> 1; count(0) -> 5; count(3) -> 0; \
                    removeMember(1, 1); count(3) -> 1; count(4) -> 0
                """);

        EDGE.promise(29, "Throws IllegalArgumentException if verdict is not 0 to 5");
        EDGE.runs("count({outside 0 5}) -> argument");
        EDGE.runs(NOBODY, "count({outside 0 5}) -> argument");
    }

    private static void sampleOrder() {
        EDGE.promise(30, "the uses are gone through in ascending order, for each use the classes from 0 to 9, for each "
                + "class (for the uses 0 to 2) the names from 0 to 7, and for calls the argument types: none, then one "
                + "from -1 to 9, then two, ordered by the first and then by the second one");
        EDGE.runs("""
                // Uses: what breaks every use is found as a read, what breaks fewer as a later one.
                removeClass(1, 4); sample(1, 0, 0) -> 0; sample(1, 0, 1) -> 4; sample(1, 0, 2) -> 0
                setMember(1, 0, 1, 2); sample(1, 0, 0) -> 1; sample(1, 0, 1) -> 1; sample(1, 0, 2) -> 0
                setMember(1, 2, 1, 1); sample(1, 0, 0) -> 2; sample(1, 0, 1) -> 1; sample(1, 0, 2) -> 0
                setClass(1, 1, 2, 1); sample(1, 0, 0) -> 3; sample(1, 0, 1) -> 1; sample(1, 0, 2) -> NONE
                setClass(1, 4, 1, 1); sample(1, 0, 0) -> 4; sample(1, 0, 1) -> 4; sample(1, 0, 2) -> NONE
                setMember(0, 4, 1, 0); sample(2, 0, 0) -> 5; sample(2, 0, 1) -> 2; sample(2, 0, 2) -> NONE
                // Classes: from 0 to 9.
                define(0, 9, false, 0, 0); sample(1, 0, 0) -> 3; sample(1, 0, 1) -> 9; define(0, 8, false, 0, 0); \
                    sample(1, 0, 1) -> 8; removeMember(1, 0); sample(1, 0, 0) -> 0; sample(1, 0, 1) -> 1
                // Names: from 0 to 7.
                addField(0, 4, 7, 3, 0); sample(1, 0, 0) -> 0; sample(1, 0, 1) -> 4; sample(1, 0, 2) -> 7; \
                    addField(0, 4, 6, 3, 0); sample(1, 0, 2) -> 6; addField(0, 3, 7, 3, 0); sample(1, 0, 1) -> 3; \
                    sample(1, 0, 2) -> 7
                """);
        EDGE.runs("draft(-1, 2, 9, 9); addMethod(0, 1, 7, 3, 0);", """
                // Arguments: the very last list, then lists before it.
                sample(1, 0, 0) -> 2; sample(1, 0, 1) -> 1; sample(1, 0, 2) -> 7; sample(1, 0, 3) -> 2; \
                    sample(1, 0, 4) -> 9; sample(1, 0, 5) -> 9
                draft(-1, 2, 9, {-1 0 8}); addMethod(0, 1, 7, 3, 0); sample(1, 0, 4) -> 9; sample(1, 0, 5) -> {-1 0 8}
                draft(-1, 2, {-1 0 8}, 9); addMethod(0, 1, 7, 3, 0); sample(1, 0, 4) -> {-1 0 8}; sample(1, 0, 5) -> 9
                draft(-1, 1, {-1 0 9}, 0); addMethod(0, 1, 7, 3, 0); sample(1, 0, 3) -> 1; \
                    sample(1, 0, 4) -> {-1 0 9}; sample(1, 0, 5) -> NONE
                draft(-1, 0, 0, 0); addMethod(0, 1, 7, 3, 0); sample(1, 0, 3) -> 0; sample(1, 0, 4) -> NONE; \
                    sample(1, 0, 5) -> NONE
                // Lists of two begin at -1 again, behind lists of one that were all gone through.
                draft(-1, 1, 9, 0); addMethod(0, 1, 7, 3, 0); addMethod(1, 1, 7, 3, 0); draft(-1, 2, {-1 0 8}, 9); \
                    addMethod(0, 1, 7, 3, 0); sample(1, 0, 3) -> 2; sample(1, 0, 4) -> {-1 0 8}; sample(1, 0, 5) -> 9
                // A name before comes first, with whatever arguments.
                draft(-1, 2, {8 9}, {8 9 }); addMethod(0, 1, 6, 3, 0); sample(1, 0, 2) -> 6; \
                    sample(1, 0, 4) -> {8 9}; sample(1, 0, 5) -> {8 9 }
                // Types that do not exist in the old version, and ones that exist, fit class 0 or not.
                draft(-1, 2, 0, 0); addMethod(0, 1, 7, 3, 0); sample(1, 0, 4) -> 0; sample(1, 0, 5) -> 0; \
                    removeMember(0, 9); draft(-1, 2, 2, 1); addMethod(0, 1, 7, 3, 0); sample(1, 0, 4) -> 2; \
                    sample(1, 0, 5) -> 1
                """);
        EDGE.runs(Edge.repeat(6, "removeMember(0, 2)") + "draft(-1, {1 2}, {0 3 9}, {0 3 9});", """
                // The only method that there is in the old version, and none of its name in the new one.
                addMethod(0, 1, 7, 3, 0); sample(1, 0, 0) -> 2; sample(1, 0, 1) -> 1; sample(1, 0, 2) -> 7; \
                    sample(1, 0, 3) -> {1 2}; sample(1, 0, 4) -> {0 3 9}
                """);
        EDGE.runs("draft(-1, 2, 1, 1); addMethod(0, 1, 7, 3, 0); addMethod(1, 1, 7, 3, 0);", """
                // A verdict that only some lists of arguments have: the first one in order is found.
                draft(9, 2, 3, 4); addMethod(1, 1, 7, 3, 0); sample(4, 0, 4) -> 3; sample(4, 0, 5) -> 4; \
                    draft(9, 2, 3, 3); addMethod(1, 1, 7, 3, 0); sample(4, 0, 4) -> 3; sample(4, 0, 5) -> 3
                draft(9, 2, 4, 3); addMethod(1, 1, 7, 3, 0); sample(4, 0, 4) -> 4; sample(4, 0, 5) -> 3; \
                    draft(9, 2, 3, 4); addMethod(1, 1, 7, 3, 0); sample(4, 0, 4) -> 3; sample(4, 0, 5) -> 4
                """);

        EDGE.promise(30, "The first one that compiles with version 0 and has the verdict is found.");
        EDGE.runs(TWELVE, """
                // Room for one more client is not asked for.
                removeClass(1, 3); clients() -> 12; addClient(3, 3, 0, 0) -> state; sample(1, 0, 0) -> 0; \
                    sample(1, 0, 1) -> 3; sample(1, 0, 2) -> 0
                """);
        EDGE.runs("""
                // What does not compile with version 0 is no sample: a closed class, a closed field.
                setMember(0, 0, 0, 1); removeMember(1, 0); sample(1, 0, 0) -> 0; sample(1, {1 2 3}, 0) -> NONE
                setClass(0, 4, 0, 0); removeClass(1, 4); sample(1, 1, 0) -> 0; sample(1, {0 2 3}, 0) -> NONE
                // A protected one is closed too, because the base is 0, whatever bases there are.
                setMember(0, 0, 0, 2); removeMember(1, 0); sample(1, {1 2 3}, 0) -> NONE
                setBase({0 1 2}, 4); setMember(0, 0, 0, 2); removeMember(1, 0); sample(1, {1 2 3}, 0) -> NONE
                """);
    }

    private static void sampleAnswers() {
        EDGE.promise(30, "Nothing changes.");
        EDGE.runs("draft(5, 2, 6, 7); removeMember(1, 0);", """
                sample(1, 0, 0) -> 0; clients() -> 3; undo() -> 0
                sample(1, 0, 0) -> 0; addMethod(0, 1, 5, 3, 0) -> 8; memberInfo(0, 8, 6) -> 5; \
                    memberInfo(0, 8, 8) -> 6; memberInfo(0, 8, 9) -> 7
                """);

        EDGE.promise(30, "Returns that property; NONE if it has no such property, or no such client is found.");
        EDGE.runs("""
                sample({1..5}, {0..3}, {0..5}) -> NONE
                removeMember(1, 0); sample(1, 0, {3 4 5}) -> NONE; sample({2 3 4 5}, 0, {0..5}) -> NONE
                setMember(1, 0, 1, 2); sample(1, 0, {3 4 5}) -> NONE
                setMember(1, 2, 1, 1); sample(1, 0, 3) -> 0; sample(1, 0, {4 5}) -> NONE
                setClass(1, 1, 2, 1); sample(1, 0, {2 3 4 5}) -> NONE
                setClass(1, 4, 1, 1); sample(1, 0, {2 3 4 5}) -> NONE
                setMember(0, 4, 1, 0); sample(2, 0, {2 3 4 5}) -> NONE
                // Each verdict.
                removeMember(1, 5); sample(2, 0, 0) -> 2; sample(2, 0, 1) -> 3; sample(2, 0, 2) -> 2
                setMember(1, 1, 0, 0); sample(3, 0, 0) -> 0; sample(3, 0, 1) -> 1; sample(3, 0, 2) -> 1
                setMember(1, 1, 2, 8); sample(4, 0, 0) -> 0; sample(4, 0, 1) -> 1; sample(4, 0, 2) -> 1
                moveMember(1, 0, 3); sample(5, 0, 0) -> 0; sample(5, 0, 1) -> 3; sample(5, 0, 2) -> 0
                """);
        EDGE.runs(Edge.repeat(8, "removeMember(0, 0)"), """
                // No member at all: only interface 2, whose method the new version still has, breaks its implementers.
                sample({1 3 4 5}, {0..3}, {0..5}) -> NONE; sample(2, {0..3}, 0) -> 5; sample(2, {0..3}, 1) -> 2
                copyVersion() -> 0; sample({1..5}, {0..3}, {0..5}) -> NONE
                """);
    }

    private static void sampleRefused() {
        EDGE.promise(30, "Throws IllegalArgumentException if an argument is out of range");
        EDGE.runs("""
                sample({outside 1 5}, {0 3}, {0 5}) -> argument
                sample({1 5}, {outside 0 3}, {0 5}) -> argument
                sample({1 5}, {0 3}, {outside 0 5}) -> argument
                sample(0, {0..3}, {0..5}) -> argument
                """);
    }
}
