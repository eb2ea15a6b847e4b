/** The boundary cases of COMPILING and of promise 25, sentence by sentence. */
public final class EdgesOfCompilingTest {
    private static final Edge EDGE = new Edge("EdgesOfCompilingTest");

    /** A client of each use for class 3 (or interface 2) in package 2, with the numbers 3 to 8. */
    private static final String ALL_USES = "setMember(0, 4, 1, 0); addClient(0, 3, 0, 2) -> 3; "
            + "addClient(1, 3, 0, 2) -> 4; draft(-1, 0, 0, 0); addClient(2, 3, 0, 2) -> 5; addClient(3, 3, 0, 2) -> 6; "
            + "addClient(4, 3, 0, 2) -> 7; addClient(5, 2, 0, 2) -> 8; copyVersion();";

    /** Class 7 below the interfaces 5 and 6, which stand beside each other. */
    private static final String TWO_INTERFACES = "define(0, 5, true, 0, 0); define(0, 6, true, 0, 0); "
            + "define(0, 7, false, 0, 96); setClass(0, 7, 2, 1); setClass(0, 7, 0, 1);";

    public static void main(String[] args) {
        classErrors();
        fields();
        fieldSymbols();
        candidates();
        applicable();
        best();
        takenOfBest();
        callSymbols();
        creating();
        extending();
        implementing();
        implementingWithInterfaces();
        compile();
        EDGE.end();
    }

    private static void classErrors() {
        EDGE.term("The first of these errors that applies is given: 1 there is no class c; 2 class c is not open to "
                + "the client; then by the use:");
        EDGE.runs(ALL_USES, """
                compile({3..8}, {0 1}) -> 0
                removeClass(1, 3); compile({3..7}, 1) -> 1; compile(8, 1) -> 0; compile({3..8}, 0) -> 0
                setClass(1, 3, 0, 0); compile({3..7}, 1) -> 2; compile(8, 1) -> 0; compile({3..8}, 0) -> 0
                setClass(1, 3, 0, 0); setClass(1, 3, 3, 2); compile({3..7}, 1) -> 0
                removeClass(1, 3); removeClass(1, 2); compile(8, 1) -> 1
                setClass(1, 2, 0, 0); compile(8, 1) -> 2
                // Before whatever else is wrong.
                setClass(1, 3, 0, 0); removeMember(1, 0); compile({3 4}, 1) -> 2
                setClass(1, 3, 0, 0); setMember(1, 0, 0, 0); setMember(1, 0, 1, 2); compile({3 4}, 1) -> 2
                setClass(1, 3, 0, 0); removeMember(1, 6); removeMember(1, 2); compile(5, 1) -> 2
                setClass(1, 3, 0, 0); setClass(1, 3, 2, 1); setClass(1, 3, 1, 1); compile({6 7}, 1) -> 2
                setClass(1, 3, 0, 0); setMember(1, 4, 1, 4); removeMember(1, 5); compile(7, 1) -> 2
                setClass(1, 2, 0, 0); setMember(1, 4, 1, 4); compile(8, 1) -> 2
                removeClass(1, 3); removeClass(1, 2); define(1, 2, false, 0, 0); compile(8, 1) -> 2
                """);
    }

    private static void fields() {
        EDGE.term("0, 1: 3 there is no field of c for the name (of any type); 5 it is not open; for 1: 6 it is final.");
        EDGE.runs(ALL_USES, """
                removeMember(1, 0); compile({3 4}, 1) -> 3
                removeMember(1, 0); draft({-1..9}, 0, 0, 0); addField(1, 3, 0, 3, 0); compile({3 4}, 1) -> 0
                setMember(1, 0, 0, {0 1 2}); compile({3 4}, 1) -> 5
                setMember(1, 0, 1, {0 1}); compile({3 4}, 1) -> 0
                setMember(1, 0, 1, {2 3}); compile(3, 1) -> 0; compile(4, 1) -> 6
                setMember(1, 0, 1, {2 3}); setMember(1, 0, 0, {0 1 2}); compile({3 4}, 1) -> 5
                // The field that is found counts, even where one behind it would do.
                addField(1, 3, 0, 0, 0); compile({3 4}, 1) -> 5
                addField(1, 3, 0, 3, 2); compile(3, 1) -> 0; compile(4, 1) -> 6
                addField(1, 2, 0, 3, 3); compile(3, 1) -> 0; compile(4, 1) -> 6
                """);
    }

    private static void fieldSymbols() {
        EDGE.term("The symbol is the name and type of this field, and whether it is static; for 0, if it has a "
                + "constant value, only this value.");
        EDGE.runs("""
                draft({-1 0 9}, 0, 0, 0); addField(0, 1, 5, 3, {0 1 2 3}); addClient(0, 3, 5, 2) -> 3; \
                    clientInfo(3, 6) -> 0; clientInfo(3, 7) -> NONE; clientInfo(3, 8) -> {-1 0 9}
                addField(0, 1, 5, 3, {0 2}); addClient(0, 3, 5, 2) -> 3; clientInfo(3, 9) -> 0
                addField(0, 1, 5, 3, {1 3}); addClient(0, 3, 5, 2) -> 3; clientInfo(3, 9) -> 1
                addField(0, 1, 5, 3, {0 1}); addClient(1, 3, 5, 2) -> 3; clientInfo(3, 8) -> INT; \
                    clientInfo(3, 9) -> {0 1}
                setMember(0, 1, 2, {-99 -1 0 99}); addClient(0, 1, 1, 2) -> 3; clientInfo(3, 6) -> 1; \
                    clientInfo(3, 7) -> {-99 -1 0 99}; clientInfo(3, {8 9}) -> NONE
                """);
        EDGE.runs("addClient(0, 3, 0, 2) -> 3;", """
                // A symbol differs by its type or by its constant value, not by the class where the field is.
                moveMember(1, 0, 3); verdict(3) -> 5
                draft({0..9}, 0, 0, 0); addField(1, 3, 0, 3, 0); verdict(3) -> 4
                addField(1, 3, 0, 3, 0); verdict(3) -> 5
                setMember(1, 1, 2, {-99 -3 -2 -1 0 6 8 99}); verdict(0) -> 4
                setMember(1, 1, 2, 8); setMember(1, 1, 2, 7); verdict(0) -> 0; moveMember(1, 1, 3); verdict(0) -> 0
                """);
    }

    private static void candidates() {
        EDGE.term("The candidates are all methods of supertypes of c with the name and with as many parameters as "
                + "there are arguments, that are open to the client, except: private ones; static ones of interfaces "
                + "other than c; and those for which some other supertype of c, which has the class of the method as a "
                + "supertype, has a method with the same signature that is not private.");
        EDGE.runs("""
                // The name, the number of parameters, and the supertypes.
                draft(-1, 0, 0, 0); addClient(2, {1 3 4}, 0, 2) -> 3; addClient(2, {1 3 4}, {1 3 5 7}, 2) -> argument
                draft(-1, {1 2}, 1, 1); addClient(2, {1 3 4}, 0, 2) -> argument
                draft(-1, 0, 0, 0); addClient(2, {0 2}, 0, 2) -> argument
                draft(-1, 1, 3, 3); addClient(2, 4, 1, 2) -> 3; addClient(2, 3, 1, 2) -> argument
                draft(-1, {0 2}, 3, 3); addClient(2, 4, 1, 2) -> argument
                // Open or not.
                setMember(0, 6, 0, 3); addClient(2, 3, 0, {0..3}) -> 3
                setMember(0, 6, 0, {1 2}); addClient(2, 3, 0, {1 2 3}) -> argument; addClient(2, 3, 0, 0) -> 3
                // A private one is no candidate, and does not hide another.
                setMember(0, 6, 0, 0); addClient(2, 3, 0, {0..3}) -> 3; target(3, 0) -> NONE; link(3, 0) -> 2
                setMember(0, 6, 0, 0); setMember(0, 2, 0, 0); addClient(2, 3, 0, {0..3}) -> argument
                // A static one of an interface is a candidate for that interface alone.
                setMember(0, 4, 1, 1); removeMember(0, 5); addClient(2, 2, 2, 2) -> 3; addClient(2, 3, 2, 2) -> argument
                setMember(0, 4, 1, 0); removeMember(0, 5); addClient(2, {2 3}, 2, 2) -> 3
                define(0, 5, true, 0, 4); setMember(0, 4, 1, 1); setClass(0, 5, 0, 1); addClient(2, 5, 2, 2) -> argument
                setMember(0, 2, 1, 1); setMember(0, 6, 0, 0); addClient(2, {1 3 4}, 0, 2) -> 3; clientInfo(3, 9) -> 1
                """);
        EDGE.runs("removeMember(0, 0); removeMember(0, 0);", """
                // Also a method with the number 0: as a candidate, and as one that hides another.
                addClient(2, {1 4}, 0, 2) -> 3
                moveMember(0, 0, 4); addMethod(0, 1, 0, 3, 0); setMember(0, 0, 0, 1); addClient(2, 4, 0, 2) -> argument
                """);
        EDGE.runs("setMember(0, 6, 0, {1 2});", """
                // One that is not open hides another all the same, whatever its result, and also if it is static.
                addClient(2, 3, 0, 2) -> argument; addClient(2, {1 4}, 0, 2) -> 3
                removeMember(0, 6); draft(9, 0, 0, 0); addMethod(0, 3, 0, {1 2}, 0); addClient(2, 3, 0, 2) -> argument
                setMember(0, 6, 1, {1 3}); addClient(2, 3, 0, 2) -> argument
                removeMember(0, 6); draft(-1, 1, 1, 0); addMethod(0, 3, 0, 1, 0); draft(-1, 0, 0, 0); \
                    addClient(2, 3, 0, 2) -> 3
                """);
        EDGE.runs(TWO_INTERFACES + "addMethod(0, 5, 5, 3, 0) -> 8;", """
                // An interface that is not below the other's hides nothing, one that is below it does.
                addClient(2, 7, 5, 2) -> 3; draft(9, 0, 0, 0); addMethod(0, 6, 5, 3, 4); addClient(2, 7, 5, 2) -> 4; \
                    clientInfo(4, 8) -> INT; setClass(0, 6, 5, 32); addClient(2, 7, 5, 2) -> 5; clientInfo(5, 8) -> 9
                // A static one of the lower interface hides, though it is no candidate itself.
                addMethod(0, 6, 5, 3, 1); setClass(0, 6, 5, 32); addClient(2, 7, 5, 2) -> argument; \
                    setClass(0, 6, 0, 1); addClient(2, 6, 5, 2) -> 3; clientInfo(3, 9) -> 1
                """);
    }

    private static void applicable() {
        EDGE.term("A candidate is applicable if each argument type fits its parameter.");
        EDGE.runs("draft(-1, 1, 1, 0); addMethod(0, 1, 5, 3, 0) -> 8;", """
                draft(0, 1, {1 3 4}, 0); addClient(2, 1, 5, 2) -> 3
                draft(0, 1, {-1 0 2 5 9}, 0); addClient(2, 1, 5, 2) -> argument
                """);
        EDGE.runs("draft(-1, 2, 1, 2); addMethod(0, 1, 5, 3, 0) -> 8;", """
                draft(0, 2, {1 3 4}, {2 3}); addClient(2, 1, 5, 2) -> 3
                draft(0, 2, {1 3 4}, {-1 0 1 4 9}); addClient(2, 1, 5, 2) -> argument
                draft(0, 2, {-1 0 2 9}, {2 3}); addClient(2, 1, 5, 2) -> argument
                draft(0, 1, 1, 2); addClient(2, 1, 5, 2) -> argument
                """);
        EDGE.runs("draft(-1, 1, {-1 9}, 0); addMethod(0, 1, 5, 3, 0) -> 8;", """
                // A type that does not exist, and int, fit themselves.
                addClient(2, 1, 5, 2) -> 3; draft(0, 1, {0 1 8}, 0); addClient(2, 1, 5, 2) -> argument
                """);

        EDGE.term("3 no candidate is applicable; 4 no candidate is best.");
        EDGE.runs("draft(0, 2, 3, 3); addMethod(0, 1, 5, 3, 0) -> 8; addClient(2, 1, 5, 2) -> 3; copyVersion();", """
                compile(3, {0 1}) -> 0
                removeMember(1, 8); compile(3, 1) -> 3; compile(3, 0) -> 0
                removeMember(1, 8); draft(1, 2, 1, 3); addMethod(1, 1, 5, 3, 0) -> 8; compile(3, 1) -> 0; \
                    draft(2, 2, 3, 1); addMethod(1, 1, 5, 3, 0) -> 9; compile(3, 1) -> 4; draft(0, 2, 3, 3); \
                    addMethod(1, 1, 5, 3, 0) -> 10; compile(3, 1) -> 0; setMember(1, 10, 0, 0); compile(3, 1) -> 4; \
                    setMember(1, 9, 0, 0); compile(3, 1) -> 0; setMember(1, 8, 0, 0); compile(3, 1) -> 3
                """);
    }

    private static void best() {
        EDGE.term("An applicable candidate is best if each of its parameters fits the corresponding parameter of each "
                + "other applicable candidate.");
        EDGE.runs("draft(0, 1, 0, 0); addMethod(0, 1, 5, 3, 0); draft(1, 1, 1, 0); addMethod(0, 1, 5, 3, 0); "
                + "draft(3, 1, 3, 0); addMethod(0, 1, 5, 3, 0); draft(-1, 1, -1, 0); addMethod(0, 1, 5, 3, 0);", """
                draft(9, 1, {-1 0 1 3}, 0); addClient(2, {1 3 4}, 5, 2) -> 3; clientInfo(3, 8) -> {-1 0 1 3}
                draft(9, 1, 2, 0); addClient(2, 1, 5, 2) -> 3; clientInfo(3, 8) -> 0
                draft(9, 1, 4, 0); addClient(2, 1, 5, 2) -> 3; clientInfo(3, 8) -> 1
                draft(2, 1, 2, 0); addMethod(0, 1, 5, 3, 0); draft(9, 1, 3, 0); addClient(2, 1, 5, 2) -> 3; \
                    clientInfo(3, 8) -> 3; removeMember(0, 10); addClient(2, 1, 5, 2) -> argument
                // The more special one of a superclass comes before a more general one of the class itself.
                draft(9, 1, 0, 0); addMethod(0, 4, 5, 3, 0); draft(9, 1, 3, 0); addClient(2, 4, 5, 2) -> 3; \
                    clientInfo(3, 8) -> 3
                """);
        EDGE.runs("draft(1, 2, 1, 3); addMethod(0, 1, 5, 3, 0); draft(3, 2, 3, 1); addMethod(0, 1, 5, 3, 0);", """
                // Crosswise.
                draft(9, 2, 3, 3); addClient(2, 1, 5, 2) -> argument
                draft(9, 2, 1, 3); addClient(2, 1, 5, 2) -> 3; clientInfo(3, 8) -> 1
                draft(9, 2, 3, 1); addClient(2, 1, 5, 2) -> 3; clientInfo(3, 8) -> 3
                draft(9, 2, 1, 1); addClient(2, 1, 5, 2) -> argument
                """);
    }

    private static void takenOfBest() {
        EDGE.term("Of several best candidates the one that is not abstract is taken if there is exactly one, otherwise "
                + "the one with the lowest number.");
        EDGE.runs(TWO_INTERFACES + "draft(6, 0, 0, 0); addMethod(0, 6, 5, 3, 4) -> 8; draft(5, 0, 0, 0); "
                + "addMethod(0, 5, 5, 3, 4) -> 9;", """
                addClient(2, 7, 5, 2) -> 3; clientInfo(3, 8) -> 6
                setMember(0, 8, 1, 0); addClient(2, 7, 5, 2) -> 3; clientInfo(3, 8) -> 6
                setMember(0, 9, 1, 0); addClient(2, 7, 5, 2) -> 3; clientInfo(3, 8) -> 5
                setMember(0, 8, 1, 0); setMember(0, 9, 1, 0); addClient(2, 7, 5, 2) -> 3; clientInfo(3, 8) -> 6
                // The number of the member counts, also where members were removed.
                removeMember(0, 0); addClient(2, 7, 5, 2) -> 3; clientInfo(3, 8) -> 6
                removeMember(0, 8); draft(6, 0, 0, 0); addMethod(0, 6, 5, 3, 4) -> 9; addClient(2, 7, 5, 2) -> 3; \
                    clientInfo(3, 8) -> 5
                """);
    }

    private static void callSymbols() {
        EDGE.term("The symbol is the name and descriptor of this method, whether it is static, and whether c is an "
                + "interface.");
        EDGE.runs("""
                clientInfo(1, 8) -> 1; clientInfo(1, 9) -> 0
                setMember(0, {2 6}, 1, 1); addClient(2, {1 3}, 0, 2) -> 3; clientInfo(3, 8) -> INT
                setMember(0, 2, 1, 1); addClient(2, 1, 0, 2) -> 3; clientInfo(3, 9) -> 1
                """);
        EDGE.runs("draft(-1, 1, 3, 0); addMethod(0, 1, 5, 3, 0); addClient(2, 3, 5, 2) -> 3; copyVersion();", """
                // Another parameter or result is another symbol, another class of the method is not.
                verdict(3) -> 0
                draft(-1, 1, 1, 0); addMethod(1, 1, 5, 3, 0); verdict(3) -> 0
                draft(-1, 1, 1, 0); addMethod(1, 1, 5, 3, 0); setMember(1, 8, 0, 0); compile(3, 1) -> 0; link(3, 1) -> 2
                moveMember(1, 8, 3); verdict(3) -> 5
                """);
        EDGE.runs("draft(-1, 1, 1, 0); addMethod(0, 1, 5, 3, 0); draft(-1, 1, 3, 0); addClient(2, 3, 5, 2) -> 3; "
                + "copyVersion();", """
                addMethod(1, 1, 5, 3, 0); link(3, 1) -> 0; compile(3, 1) -> 0; verdict(3) -> 4
                draft(9, 1, 3, 0); addMethod(1, 1, 5, 3, 0); link(3, 1) -> 0; compile(3, 1) -> 0; verdict(3) -> 4
                draft(9, 1, 1, 0); addMethod(1, 3, 5, 3, 0); link(3, 1) -> 0; compile(3, 1) -> 0; verdict(3) -> 4
                """);
        EDGE.runs("draft(-1, 2, 3, 1); addMethod(0, 1, 5, 3, 0); draft(-1, 2, 3, 3); addClient(2, 3, 5, 2) -> 3; "
                + "copyVersion();", """
                // The second parameter too.
                verdict(3) -> 0; addMethod(1, 1, 5, 3, 0); link(3, 1) -> 0; verdict(3) -> 4
                """);
    }

    private static void creating() {
        EDGE.term("3: 6 c is abstract.");
        EDGE.runs(ALL_USES, """
                compile(6, {0 1}) -> 0; setClass(1, 3, 2, 1); compile(6, 1) -> 6; compile(6, 0) -> 0
                removeClass(1, 3); define(1, 3, true, 0, 0); setClass(1, 3, 0, 1); compile(6, 1) -> 6
                setClass(1, 3, 1, 1); compile(6, 1) -> 0
                // A class that is incomplete but not abstract can be created.
                setMember(1, 4, 1, 4); removeMember(1, 5); classInfo(1, 3, 9) -> 1; compile(6, 1) -> 0
                """);
    }

    private static void extending() {
        EDGE.term("4: 6 c is an interface or final; 7 c is incomplete.");
        EDGE.runs(ALL_USES, """
                setClass(1, 3, 1, 1); compile(7, 1) -> 6; compile(7, 0) -> 0
                removeClass(1, 3); define(1, 3, true, 0, 0); setClass(1, 3, 0, 1); compile(7, 1) -> 6
                setMember(1, 4, 1, 4); compile(7, 1) -> 0; removeMember(1, 5); compile(7, 1) -> 7; \
                    setClass(1, 3, 1, 1); compile(7, 1) -> 6
                setClass(1, 3, 2, 1); compile(7, 1) -> 0; addMethod(1, 3, 5, 3, 4); compile(7, 1) -> 7
                // The base is not used.
                setBase(7, 4); removeClass(1, 4); compile(7, 1) -> 0
                setBase(7, 4); setClass(1, 4, 1, 1); compile(7, 1) -> 0
                """);
        EDGE.runs("addClient(4, {0 1 3 4}, 0, 2) -> 3; compile(3, {0 1}) -> 0");
    }

    private static void implementing() {
        EDGE.term("5: 6 c is no interface; 8 the base does not exist, or is an interface, final, or not open to the "
                + "client; 7 a class with this base as its superclass and c as its only direct superinterface, without "
                + "members, would be incomplete.");
        EDGE.runs(ALL_USES + "setBase(8, 4);", """
                compile(8, {0 1}) -> 0
                removeClass(1, 3); removeClass(1, 2); define(1, 2, false, 0, 0); setClass(1, 2, 0, 1); \
                    compile(8, 1) -> 6; removeClass(1, 4); compile(8, 1) -> 6
                removeClass(1, 4); compile(8, 1) -> 8; compile(8, 0) -> 0
                removeClass(1, 4); define(1, 4, true, 0, 0); setClass(1, 4, 0, 1); compile(8, 1) -> 8
                setClass(1, 4, 1, 1); compile(8, 1) -> 8
                setClass(1, 4, 0, 0); compile(8, 1) -> 8; setClass(1, 4, 3, 2); compile(8, 1) -> 0
                setMember(1, 4, 1, 4); compile(8, 1) -> 7; setClass(1, 4, 1, 1); compile(8, 1) -> 8
                setMember(1, 4, 1, 4); compile(8, 1) -> 7; removeClass(1, 4); compile(8, 1) -> 8
                // The base, or something above it, gives the method that the interface asks for.
                setMember(1, 4, 1, 4); draft(1, 0, 0, 0); addMethod(1, {1 4}, 2, {1 2 3}, 0); compile(8, 1) -> 0
                setMember(1, 4, 1, 4); draft(1, 0, 0, 0); addMethod(1, {1 4}, 2, 0, 0); compile(8, 1) -> 7
                setMember(1, 4, 1, 4); draft(1, 0, 0, 0); addMethod(1, {1 4}, 2, 3, 1); compile(8, 1) -> 7
                setMember(1, 4, 1, 4); draft(9, 0, 0, 0); addMethod(1, {1 4}, 2, 3, 0); compile(8, 1) -> 7
                // An abstract method of the base is not given by the interface's default.
                draft(1, 0, 0, 0); addMethod(1, 4, 2, 3, 4); compile(8, 1) -> 7
                """);
    }

    private static void implementingWithInterfaces() {
        EDGE.runs("define(0, 5, true, 0, 0); define(0, 6, true, 0, 0); define(0, 9, false, 0, 96); "
                + "setClass(0, 9, 0, 1); setMember(0, 4, 1, 0); addClient(5, 2, 0, 2) -> 3; setBase(3, 9); "
                + "copyVersion(); draft(1, 0, 0, 0);", """
                // The interfaces of the base count too: one default is enough, two of them are as good as none.
                setMember(1, 4, 1, 4); compile(3, 1) -> 7; addMethod(1, 5, 2, 3, 0) -> 8; compile(3, 1) -> 0; \
                    addMethod(1, 6, 2, 3, 0) -> 9; compile(3, 1) -> 7; setMember(1, 9, 1, 1); compile(3, 1) -> 0; \
                    setMember(1, 9, 1, 4); compile(3, 1) -> 0
                addMethod(1, 5, 2, 3, 4) -> 8; compile(3, 1) -> 0; addMethod(1, 6, 2, 3, 0) -> 9; compile(3, 1) -> 7
                addMethod(1, 5, 2, 3, 0) -> 8; addMethod(1, 6, 2, 3, 0) -> 9; compile(3, 1) -> 0
                """);
    }

    private static void compile() {
        EDGE.promise(25, "Compiles a client with a version; nothing changes.");
        EDGE.runs("""
                setMember(0, 1, 2, 50); compile(0, 0) -> 0; clientInfo(0, 7) -> 7; compile(0, 1) -> 0; \
                    clientInfo(0, 7) -> 7
                compile(0, 0) -> 0; undo() -> state
                """);

        EDGE.promise(25, "Returns the error, 1 to 8; 0 if there is none.");
        EDGE.runs("compile({0 1 2}, {0 1}) -> 0");

        EDGE.promise(25, "Throws IndexOutOfBoundsException if there is no such client or version");
        EDGE.runs("""
                compile({outside 0 2}, {0 1}) -> index
                compile({0 1 2}, {outside 0 1}) -> index
                """);
        EDGE.runs(Edge.repeat(3, "removeClient(0)"), "compile({-1 0}, {0 1}) -> index");
        EDGE.runs(Edge.repeat(9, "addClient(3, 1, 0, 0)"), "compile(11, {0 1}) -> 0; compile(12, {0 1}) -> index");
    }
}
