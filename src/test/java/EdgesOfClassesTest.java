/** The boundary cases of VERSIONS AND CLASSES and of the promises 1 to 7, sentence by sentence. */
public final class EdgesOfClassesTest {
    private static final Edge EDGE = new Edge("EdgesOfClassesTest");

    /** 5 and 6 are interfaces, 7 and 8 plain classes, 9 does not exist. */
    private static final String NINE = "define(0, 5, true, 0, 0); define(0, 6, true, 0, 36); "
            + "define(0, 7, false, 3, 96); define(0, 8, false, 7, 0); ";

    /** 2, 5, 6 and 8 are interfaces; 7 and 9 do not exist. */
    private static final String FOUR_INTERFACES = "define(0, 5, true, 0, 0); define(0, 6, true, 0, 0); "
            + "define(0, 8, true, 0, 0); ";

    public static void main(String[] args) {
        versions();
        classNumbers();
        classZero();
        kindsOfClasses();
        supertypes();
        newObject();
        define();
        defineOutOfBounds();
        defineIllegalArgument();
        defineIllegalState();
        removeClass();
        removeClassRefused();
        setClass();
        setClassIllegalArgument();
        setClassIllegalState();
        exists();
        classInfo();
        incomplete();
        copyVersion();
        EDGE.end();
    }

    private static void versions() {
        EDGE.term("There are two versions, 0 (old) and 1 (new).");
        EDGE.runs("""
                define({0 1}, 5, false, 0, 0) -> 6
                removeClass({0 1}, 3) -> 2
                setClass({0 1}, 3, 0, 1) -> 1
                exists({0 1}, 0) -> true
                classInfo({0 1}, 0, 0) -> 1
                addField({0 1}, 1, 5, 3, 0) -> 8
                addMethod({0 1}, 1, 5, 3, 0) -> 8
                removeMember({0 1}, 0) -> 7
                setMember({0 1}, 0, 0, 3) -> 3
                moveMember({0 1}, 0, 3) -> 1
                members({0 1}) -> 8
                memberInfo({0 1}, 0, 0) -> 3
                fits({0 1}, 0, 0) -> true
                field({0 1}, 1, 0) -> 0
                method({0 1}, 1, 0) -> 2
                selected({0 1}, 2, 1) -> 2
                compile(0, {0 1}) -> 0
                link(0, {0 1}) -> 0
                target(1, {0 1}) -> 3
                define({outside 0 1}, 5, false, 0, 0) -> index
                removeClass({outside 0 1}, 3) -> index
                setClass({outside 0 1}, 3, 0, 1) -> index
                exists({outside 0 1}, 0) -> index
                classInfo({outside 0 1}, 0, 0) -> index
                addField({outside 0 1}, 1, 5, 3, 0) -> index
                addMethod({outside 0 1}, 1, 5, 3, 0) -> index
                removeMember({outside 0 1}, 0) -> index
                setMember({outside 0 1}, 0, 0, 3) -> index
                moveMember({outside 0 1}, 0, 3) -> index
                members({outside 0 1}) -> index
                memberInfo({outside 0 1}, 0, 0) -> index
                fits({outside 0 1}, 0, 0) -> index
                field({outside 0 1}, 1, 0) -> index
                method({outside 0 1}, 1, 0) -> index
                selected({outside 0 1}, 2, 1) -> index
                compile(0, {outside 0 1}) -> index
                link(0, {outside 0 1}) -> index
                target(1, {outside 0 1}) -> index
                """);
    }

    private static void classNumbers() {
        EDGE.term("a class is named by a number from 0 to 9, the same in both versions");
        EDGE.runs("""
                removeClass({0 1}, {outside 0 9}) -> index
                setClass({0 1}, {outside 0 9}, 0, 1) -> index
                exists({0 1}, {outside 0 9}) -> index
                classInfo({0 1}, {outside 0 9}, 0) -> index
                addField({0 1}, {outside 0 9}, 5, 3, 0) -> index
                addMethod({0 1}, {outside 0 9}, 5, 3, 0) -> index
                moveMember({0 1}, 0, {outside 0 9}) -> index
                field({0 1}, {outside 0 9}, 0) -> index
                method({0 1}, {outside 0 9}, 0) -> index
                selected({0 1}, 2, {outside 0 9}) -> index
                define(0, 9, false, 0, 0) -> 6; exists(0, 9) -> true; exists(1, 9) -> false; classInfo(0, 9, 8) -> 513
                define(1, 9, false, 0, 0) -> 6; exists(1, 9) -> true; exists(0, 9) -> false; classInfo(1, 9, 8) -> 513
                """);
    }

    private static void classZero() {
        EDGE.term("Class 0 always exists; it is a public class in package 0, not final, not abstract, without a "
                + "superclass, interfaces and members.");
        EDGE.runs("""
                exists({0 1}, 0) -> true
                classInfo({0 1}, 0, 0) -> 1
                classInfo({0 1}, 0, {1 2 3 5 6 7 9}) -> 0
                classInfo({0 1}, 0, 4) -> NONE
                classInfo({0 1}, 0, 8) -> 1
                define({0 1}, 0, {false true}, 0, 0) -> index
                removeClass({0 1}, 0) -> state
                setClass({0 1}, 0, {0..3}, {0 1 }) -> state
                setClass({0 1}, 0, 5, 0) -> state
                addField({0 1}, 0, 5, 3, {0..3}) -> state
                addMethod({0 1}, 0, 5, 3, {0..3}) -> state
                moveMember({0 1}, {0 1 2 3 5 6 7}, 0) -> state
                // Not even when every other class is gone, and nothing has it as a superclass.
                removeClass(0, 4); removeClass(0, 3); removeClass(0, 2); removeClass(0, 1); \
                    removeClass(0, 0) -> state; exists(0, 0) -> true; copyVersion() -> 0; exists(1, 0) -> true; \
                    removeClass(1, 0) -> state
                """);
    }

    private static void kindsOfClasses() {
        EDGE.term("it has a superclass, which is a plain class with a smaller number (class 0 for interfaces)");
        EDGE.runs("""
                define(0, 5, true, {0..9}, 0); classInfo(0, 5, 4) -> 0
                define(0, 5, false, {0 1 3 4}, 0); classInfo(0, 5, 4) -> {0 1 3 4}
                define(0, 5, false, {2 5 6}, 0) -> argument
                """);

        EDGE.term("a set of interfaces with smaller numbers (its direct superinterfaces; sets are bit masks)");
        EDGE.runs(NINE, """
                define(0, 9, {false true}, 0, {0 4 32 36 64 68 96 100}); classInfo(0, 9, 5) -> {0 4 32 36 64 68 96 100}
                define(0, 9, {false true}, 0, 512) -> argument
                define(0, 9, {false true}, 0, 100); setClass(0, 9, 5, 0) -> 100; classInfo(0, 9, 5) -> 0
                """);

        EDGE.term("a package (0 to 3)");
        EDGE.runs("""
                setClass(0, {2 3}, 3, {0..3}) -> 0; classInfo(0, {2 3}, 3) -> {0..3}
                setClass(0, {2 3}, 3, {outside 0 3}) -> argument; classInfo(0, {2 3}, 3) -> 0
                """);

        EDGE.term("Interfaces are never final and always abstract.");
        EDGE.runs("""
                define(0, 9, true, 0, 0); classInfo(0, 9, 1) -> 0; classInfo(0, 9, 2) -> 1
                setClass(0, 2, 1, 1) -> state; classInfo(0, 2, 1) -> 0
                setClass(0, 2, 2, 0) -> state; classInfo(0, 2, 2) -> 1
                removeMember(0, 4); setClass(0, 2, 2, 0) -> state; classInfo(0, 2, 2) -> 1
                """);

        EDGE.term("The superclass of a class is never final.");
        EDGE.runs("""
                setClass(0, 1, 1, 1) -> state; classInfo(0, 1, 1) -> 0
                setClass(0, 3, 1, 1) -> 0; define(0, 5, false, 3, 0) -> argument; setClass(0, 4, 4, 3) -> argument
                """);
    }

    private static void supertypes() {
        EDGE.term("The supertypes of a class are the class itself, class 0, and all supertypes of its superclass and "
                + "of its direct superinterfaces.");
        EDGE.runs("""
                classInfo(0, 0, 8) -> 1; classInfo(0, 1, 8) -> 3; classInfo(0, 2, 8) -> 5; classInfo(0, 3, 8) -> 15; \
                    classInfo(0, 4, 8) -> 19
                """);
        EDGE.runs(NINE, """
                classInfo(0, 5, 8) -> 33; classInfo(0, 6, 8) -> 101; classInfo(0, 7, 8) -> 239; \
                    classInfo(0, 8, 8) -> 495
                // What is above a superclass or a superinterface changes what is below, at any distance.
                setClass(0, 6, 5, 0) -> 36; classInfo(0, 8, 8) -> 495; setClass(0, 3, 5, 0) -> 4; \
                    classInfo(0, 8, 8) -> 491; setClass(0, 7, 5, 0) -> 96; classInfo(0, 8, 8) -> 395; \
                    setClass(0, 7, 4, 0) -> 3; classInfo(0, 8, 8) -> 385; setClass(0, 8, 4, 0) -> 7; \
                    classInfo(0, 8, 8) -> 257
                """);
        EDGE.runs("""
                // The longest chains: of plain classes, and of interfaces.
                removeClass(0, 4); removeClass(0, 3); removeClass(0, 2); define(0, 2, false, 1, 0); \
                    define(0, 3, false, 2, 0); define(0, 4, false, 3, 0); define(0, 5, false, 4, 0); \
                    define(0, 6, false, 5, 0); define(0, 7, false, 6, 0); define(0, 8, false, 7, 0); \
                    define(0, 9, false, 8, 0) -> 10; classInfo(0, 9, 8) -> 1023; method(0, 9, 0) -> 2; \
                    field(0, 9, 1) -> 1; setClass(0, 5, 4, 0) -> 4; classInfo(0, 9, 8) -> 993; \
                    method(0, 9, 0) -> NONE; field(0, 9, 1) -> NONE; undo() -> 4; classInfo(0, 9, 8) -> 1023
                removeClass(0, 4); removeClass(0, 3); removeClass(0, 2); removeClass(0, 1); \
                    define(0, 1, true, 0, 0) -> 2; define(0, 2, true, 0, 2); define(0, 3, true, 0, 4); \
                    define(0, 4, true, 0, 8); define(0, 5, true, 0, 16); define(0, 6, true, 0, 32); \
                    define(0, 7, true, 0, 64); define(0, 8, true, 0, 128); define(0, 9, false, 0, 256) -> 10; \
                    classInfo(0, 9, 8) -> 1023; addField(0, 1, 7, 3, 3) -> 0; field(0, 9, 7) -> 0; \
                    addMethod(0, 1, 7, 3, 4) -> 1; method(0, 9, 7) -> 1; classInfo(0, 9, 9) -> 1; \
                    setMember(0, 1, 1, 0) -> 4; classInfo(0, 9, 9) -> 0; selected(0, 1, 9) -> 1
                """);
    }

    private static void newObject() {
        EDGE.promise(1, "Creates a tool with what is described under AT FIRST.");
        EDGE.runs("""
                undo() -> state; checksum() -> -6015417857791309854
                clients() -> 3; clientInfo(2, 0) -> 2; clientInfo(3, 0) -> index
                members({0 1}) -> 8; memberInfo({0 1}, 7, 4) -> 4; memberInfo({0 1}, 8, 4) -> index
                exists({0 1}, {0..4}) -> true
                exists({0 1}, {5..9}) -> false
                """);
        // Two objects have nothing in common.
        CompatibilityJudge other = new CompatibilityJudge();
        other.removeClass(0, 3);
        other.draft(9, 2, 9, 9);
        EDGE.runs("""
                members(0) -> 8; exists(0, 3) -> true; draft(-1, 0, 0, 0) -> 0; undo() -> state
                """);
    }

    private static void define() {
        EDGE.promise(2, "Defines a class that does not exist in a version, neither public nor final, in package 0; an "
                + "interface is abstract, a plain class is not.");
        EDGE.runs("define({0 1}, 9, false, 3, 4);", """
                classInfo({0 1}, 9, {0 1 2 3 6 7 9}) -> 0
                classInfo({0 1}, 9, 4) -> 3; classInfo({0 1}, 9, 5) -> 4; classInfo({0 1}, 9, 8) -> 527
                """);
        EDGE.runs("define({0 1}, 9, true, 3, 4);", """
                classInfo({0 1}, 9, {0 1 3 4 7}) -> 0
                classInfo({0 1}, 9, {2 6 9}) -> 1
                classInfo({0 1}, 9, 5) -> 4; classInfo({0 1}, 9, 8) -> 517
                """);
        EDGE.runs("setClass(0, 4, 0, 0); setClass(0, 3, 1, 1); define(0, 9, {false true}, 0, 0);", """
                // The other classes keep what they have.
                classInfo(0, {0 1 2 3}, 0) -> 1; classInfo(0, 4, 0) -> 0; classInfo(0, {0 1 2 4}, 1) -> 0; \
                    classInfo(0, 3, 1) -> 1; classInfo(0, {2 4}, 2) -> 1; classInfo(0, {0 1 3}, 2) -> 0; \
                    classInfo(0, 2, 6) -> 1; classInfo(0, {0 1 3 4}, 6) -> 0
                """);
        // What the number was used for before is forgotten.
        EDGE.runs("setClass(0, 4, 1, 1); setClass(0, 4, 3, 3); setClass(0, 4, 5, 4); removeClass(0, 4);", """
                define(0, 4, false, 0, 0) -> 5; classInfo(0, 4, {0..7}) -> 0; classInfo(0, 4, 8) -> 17
                define(0, 4, true, 0, 0) -> 5; classInfo(0, 4, {0 1 3 4 5 7 9}) -> 0; classInfo(0, 4, 8) -> 17
                define(0, 4, true, 0, 0) -> 5; classInfo(0, 4, {2 6}) -> 1
                """);
        EDGE.runs("define(0, 9, true, 0, 4); removeClass(0, 9);", """
                define(0, 9, false, 0, 0) -> 6; classInfo(0, 9, {0..7}) -> 0; classInfo(0, 9, 8) -> 513
                """);

        EDGE.promise(2, "superclass: its superclass (without effect for an interface)");
        EDGE.runs("""
                define(0, 5, true, {0..9}, 4) -> 6; classInfo(0, 5, 4) -> 0; classInfo(0, 5, 8) -> 37
                define(0, 5, true, {outside 0 9}, 4) -> 6; classInfo(0, 5, 4) -> 0; classInfo(0, 5, 8) -> 37
                define(0, 5, true, NONE, 4) -> 6; classInfo(0, 5, 4) -> 0; classInfo(0, 5, 8) -> 37
                setClass(0, 3, 1, 1); define(0, 5, true, 3, 0) -> 6
                """);

        EDGE.promise(2, "Returns the number of classes of the version then.");
        EDGE.runs("""
                define(1, 9, false, 0, 0) -> 6; define(1, 5, false, 0, 0) -> 7; define(1, 7, true, 0, 0) -> 8; \
                    define(1, 6, false, 5, 4) -> 9; define(1, 8, true, 0, 128) -> 10; define(0, 5, true, 0, 0) -> 6
                removeClass(0, 4); removeClass(0, 3); removeClass(0, 2); removeClass(0, 1); \
                    define(0, 1, false, 0, 0) -> 2
                """);
    }

    private static void defineOutOfBounds() {
        EDGE.promise(2, "Throws IndexOutOfBoundsException if there is no such version, or c is not 1 to 9");
        EDGE.runs("""
                define({0 1}, {outside 1 9}, {false true}, 0, 0) -> index
                define({outside 0 1}, {1 5 9}, {false true}, 0, 0) -> index
                define({0 1}, 9, {false true}, 0, 0) -> 6
                removeClass(0, 4); removeClass(0, 3); removeClass(0, 1); define(0, 1, {false true}, 0, 0) -> 3
                """);
    }

    private static void defineIllegalArgument() {
        EDGE.promise(2, "Throws IllegalArgumentException if it is a plain class and superclass is not the number of an "
                + "existing plain class that is smaller than c and not final, or if interfaces contains something else "
                + "than numbers of existing interfaces that are smaller than c");
        EDGE.runs("""
                define({0 1}, 5, false, {outside 0 9}, 0) -> argument
                define(0, 5, false, {NONE INT 2 5 6 9 10}, 0) -> argument
                define(0, 5, false, {0 1 3 4}, 0) -> 6
                define(0, 9, false, {5 6 7 8}, 0) -> argument
                define(0, 8, false, 0, 0); define(0, 9, false, 8, 0) -> 7
                define(0, 9, false, 0, 0); define(0, 8, false, 9, 0) -> argument; define(0, 8, false, 0, 0) -> 7
                define(1, 5, false, 0, 0); define(0, 6, false, 5, 0) -> argument; define(1, 6, false, 5, 0) -> 7
                setClass(0, 4, 1, 1); define(0, 5, false, 4, 0) -> argument; define(1, 5, false, 4, 0) -> 6; \
                    setClass(0, 4, 1, 0); define(0, 5, false, 4, 0) -> 6
                define(0, 5, {false true}, 0, {-1 6 12 20 36 2147483647 -2147483644}) -> argument
                define(1, 5, true, 0, 0); define(0, 6, {false true}, 0, 32) -> argument; \
                    define(1, 6, {false true}, 0, 32) -> 7
                removeClass(0, 3); removeClass(0, 2); define(0, 5, {false true}, 0, 4) -> argument
                """);
        for (int bit = 0; bit < 32; bit++) {
            boolean isGood = bit == 2 || bit == 5 || bit == 6;
            EDGE.runs(FOUR_INTERFACES, "define(0, 7, {false true}, 0, " + (1 << bit) + ") -> "
                    + (isGood ? "9" : "argument"));
        }
    }

    private static void defineIllegalState() {
        EDGE.promise(2, "Throws IllegalStateException if the class exists already");
        EDGE.runs("""
                define({0 1}, {1..4}, {false true}, 0, 0) -> state
                removeClass(0, 4); define(0, 4, false, 1, 0) -> 5; define(0, 4, false, 1, 0) -> state
                define(1, 9, true, 0, 0); define(1, 9, {false true}, 0, 0) -> state; define(0, 9, true, 0, 0) -> 6
                """);
    }

    private static void removeClass() {
        EDGE.promise(3, "Removes a class with all its members.");
        EDGE.runs("""
                removeClass(0, 3) -> 2; exists(0, 3) -> false; members(0) -> 6; memberInfo(0, 4, 4) -> 2; \
                    memberInfo(0, 5, 4) -> 4; exists(1, 3) -> true; members(1) -> 8
                removeClass(1, 4) -> 1; members(1) -> 7; memberInfo(1, 6, 4) -> 3; memberInfo(1, 7, 4) -> index; \
                    members(0) -> 8
                // The other classes keep what they have, whether they have it or not.
                removeClass(0, 3); classInfo(0, {0 1 2 4}, 0) -> 1; classInfo(0, {0 1 2 4}, 1) -> 0; \
                    classInfo(0, {2 4}, 2) -> 1; classInfo(0, {0 1}, 2) -> 0; classInfo(0, 2, 6) -> 1; \
                    classInfo(0, {0 1 4}, 6) -> 0; classInfo(0, 4, 3) -> 1; classInfo(0, 4, 4) -> 1
                setClass(0, 4, 0, 0); setClass(0, 4, 1, 1); removeClass(0, 3); classInfo(0, 4, 0) -> 0; \
                    classInfo(0, 4, 1) -> 1
                """);

        EDGE.promise(3, "Returns how many members were removed.");
        EDGE.runs("""
                define(0, 5, false, 0, 0); removeClass(0, 5) -> 0; members(0) -> 8
                removeClass(0, 3); removeClass(0, 4); removeClass(0, 1) -> 4; removeClass(0, 2) -> 1; members(0) -> 0
                """);
        StringBuilder full = new StringBuilder("define(0, 5, false, 0, 0);");
        for (int first = -1; first <= 2; first++) {
            full.append("draft(-1, 1, " + first + ", 0);");
            for (int name = 0; name <= 7; name++) {
                full.append("addMethod(0, 5, " + name + ", 3, 0);");
            }
        }
        EDGE.runs(full.toString(), """
                members(0) -> 40; removeClass(0, 5) -> 32; members(0) -> 8
                """);
    }

    private static void removeClassRefused() {
        EDGE.promise(3, "Throws IndexOutOfBoundsException if there is no such version or class");
        EDGE.runs("""
                removeClass({0 1}, {outside 0 9}) -> index
                removeClass({0 1}, {5..9}) -> index
                removeClass({outside 0 1}, {0 3}) -> index
                removeClass(0, 3); removeClass(0, 3) -> index; removeClass(1, 3) -> 2
                """);

        EDGE.promise(3, "Throws IllegalStateException if c is 0, or the class is the superclass or a direct "
                + "superinterface of another class");
        EDGE.runs("""
                removeClass({0 1}, {0 1 2}) -> state
                setClass(0, 3, 4, 0); removeClass(0, 1) -> state; setClass(0, 4, 4, 0); removeClass(0, 1) -> 4
                setClass(0, 3, 5, 0); removeClass(0, 2) -> 1; removeClass(1, 2) -> state
                define(0, 9, true, 0, 4); removeClass(0, 3); removeClass(0, 2) -> state; removeClass(0, 9); \
                    removeClass(0, 2) -> 1
                define(0, {5 9}, false, 3, 0); removeClass(0, 3) -> state; removeClass(0, {5 9}) -> 0; \
                    removeClass(0, 3) -> 2
                define(0, {5 9}, false, 4, 0); removeClass(0, 4) -> state
                define(0, 5, true, 0, 0); define(0, {6 9}, {false true}, 0, 32); removeClass(0, 5) -> state
                // A supertype that is not a direct one does not count.
                define(0, 5, true, 0, 4); define(0, 6, false, 0, 32); removeClass(0, 3); removeClass(0, 2) -> state; \
                    setClass(0, 5, 5, 0); removeClass(0, 2) -> 1
                // A class that is only a type of a member, a client's class or its base does not count either.
                define(0, 9, false, 0, 0); draft(9, 1, 9, 0); addMethod(0, 1, 5, 3, 0); removeClass(0, 9) -> 0; \
                    memberInfo(0, 8, 6) -> 9; memberInfo(0, 8, 8) -> 9
                setBase(0, 4); removeClass(0, 4) -> 1; clientInfo(0, 4) -> 4; removeClass(0, 3) -> 2; clients() -> 3
                """);
    }

    private static void setClass() {
        EDGE.promise(4, "Changes a property of a class.");
        EDGE.runs("""
                setClass(0, 3, 0, 0); classInfo(0, 3, 0) -> 0; classInfo(1, 3, 0) -> 1; classInfo(0, {1 2 4}, 0) -> 1
                setClass(1, 3, 1, 1); classInfo(1, 3, 1) -> 1; classInfo(0, 3, 1) -> 0; classInfo(1, {1 2 4}, 1) -> 0
                setClass(0, 4, 2, 0); classInfo(0, 4, 2) -> 0; classInfo(1, 4, 2) -> 1; classInfo(0, 2, 2) -> 1
                setClass(0, 4, 3, 3); classInfo(0, 4, 3) -> 3; classInfo(1, 4, 3) -> 1; classInfo(0, {1 2 3}, 3) -> 0
                setClass(0, 4, 4, 3); classInfo(0, 4, 4) -> 3; classInfo(1, 4, 4) -> 1; classInfo(0, 3, 4) -> 1
                setClass(0, 4, 5, 4); classInfo(0, 4, 5) -> 4; classInfo(1, 4, 5) -> 0; classInfo(0, 3, 5) -> 4
                // The other properties of the class stay: 4 is public, abstract, in package 1, below 1.
                setClass(0, 4, {1 2 3 4 5}, 0); classInfo(0, 4, 0) -> 1
                setClass(0, 4, {0 2 3 4 5}, 0); classInfo(0, 4, 1) -> 0; setClass(0, 4, 1, 1); classInfo(0, 4, 1) -> 1
                setClass(0, 4, {0 1 3 4 5}, 0); classInfo(0, 4, 2) -> 1
                setClass(0, 4, {0 1 2 4 5}, 0); classInfo(0, 4, 3) -> 1
                setClass(0, 4, {0 1 2 3 5}, 0); classInfo(0, 4, 4) -> 1
                setClass(0, 3, {0 1 2 3 4}, 0); classInfo(0, 3, 5) -> 4
                setClass(0, 4, 4, 3); classInfo(0, 4, 5) -> 0; setClass(0, 4, 3, 3); classInfo(0, 4, 4) -> 3
                """);

        EDGE.promise(4, "Returns the previous value.");
        EDGE.runs("""
                setClass(0, 3, 0, 1) -> 1; setClass(0, 3, 0, 0) -> 1; setClass(0, 3, 0, 0) -> 0; \
                    setClass(0, 3, 0, 1) -> 0
                setClass(0, 3, {1 2}, 0) -> 0; setClass(0, 3, {1 2}, 1) -> 0; setClass(0, 3, {1 2}, 1) -> 1; \
                    setClass(0, 3, {1 2}, 0) -> 1
                setClass(0, {2 3}, 3, 0) -> 0; setClass(0, {2 3}, 3, 1) -> 0; setClass(0, {2 3}, 3, 2) -> 1; \
                    setClass(0, {2 3}, 3, 3) -> 2; setClass(0, {2 3}, 3, 3) -> 3
                setClass(0, 4, 4, 3) -> 1; setClass(0, 4, 4, 3) -> 3; setClass(0, 4, 4, 0) -> 3; \
                    setClass(0, 4, 4, 1) -> 0
                setClass(0, 3, 5, 4) -> 4; setClass(0, 3, 5, 0) -> 4; setClass(0, 3, 5, 0) -> 0; \
                    setClass(0, 3, 5, 4) -> 0
                setClass(0, 2, 0, 0) -> 1; setClass(0, 2, 0, 1) -> 0; setClass(0, 2, 5, 0) -> 0
                """);

        EDGE.promise(4, "Throws IndexOutOfBoundsException if there is no such version or class");
        EDGE.runs("""
                setClass({0 1}, {outside 0 9}, {0 3 5}, 0) -> index
                setClass({0 1}, {5..9}, {0 3 5}, 0) -> index
                setClass({outside 0 1}, {0 3}, 0, 1) -> index
                removeClass(1, 4); setClass(1, 4, 0, 1) -> index; setClass(0, 4, 0, 1) -> 1
                """);
    }

    private static void setClassIllegalArgument() {
        EDGE.promise(4, "Throws IllegalArgumentException if what is not 0 to 5, or value is out of range for 0 to 3, "
                + "or, for a plain class, not as described at define() for 4, or not as described there for 5");
        EDGE.runs("""
                setClass(0, {0 2 3}, {outside 0 5}, {0 1}) -> argument
                setClass(0, {0 2 3}, {0 1 2}, {outside 0 1}) -> argument
                setClass(0, {0 2 3}, 3, {outside 0 3}) -> argument
                setClass(0, {0 1 3 4}, 4, {outside 0 9}) -> argument
                // Class 0 is a plain class, and there is none with a smaller number.
                setClass({0 1}, 0, 4, {NONE INT 0 1 2 9}) -> argument
                setClass(0, 1, 4, 0) -> 0
                setClass(0, 1, 4, {NONE INT 1 2 3 5}) -> argument
                setClass(0, 4, 4, {NONE INT 2 4 5 9}) -> argument
                setClass(0, 4, 4, {0 1 3}) -> 1
                define(0, 9, false, 0, 0); setClass(0, 9, 4, 8) -> argument; define(0, 8, false, 0, 0); \
                    setClass(0, 9, 4, 8) -> 0; setClass(0, 8, 4, {8 9}) -> argument
                setClass(0, 3, 1, 1); setClass(0, 4, 4, 3) -> argument; setClass(1, 4, 4, 3) -> 1
                removeClass(0, 3); setClass(0, 4, 4, 3) -> argument; setClass(1, 4, 4, 3) -> 1
                setClass(0, 3, 5, {-1 1 2 5 6 8 16 2147483647 -2147483644}) -> argument
                setClass(0, {0 1 2}, 5, {1 2 4}) -> argument
                setClass(0, {1 2}, 5, 0) -> 0
                removeClass(0, 3); removeClass(0, 2); setClass(0, 4, 5, 4) -> argument; setClass(1, 4, 5, 4) -> 0
                """);
        for (int bit = 0; bit < 32; bit++) {
            boolean isGood = bit == 2 || bit == 5 || bit == 6;
            EDGE.runs(FOUR_INTERFACES, "define(0, 7, {false true}, 0, 0); setClass(0, 7, 5, " + (1 << bit) + ") -> "
                    + (isGood ? "0" : "argument"));
        }
    }

    private static void setClassIllegalState() {
        EDGE.promise(4, "Throws IllegalStateException if c is 0, or if it is an interface and what is 1, 2 or 4; if it "
                + "would be final and is the superclass of another class; or if it would not be abstract and has an "
                + "abstract method");
        EDGE.runs("""
                setClass({0 1}, 0, {0..2}, {0 1 }) -> state
                setClass({0 1}, 0, 3, {0..3}) -> state
                setClass({0 1}, 0, 5, 0) -> state
                setClass({0 1}, 2, {1 2}, {0 1 }) -> state
                // Whatever the value is: only a plain class asks for a superclass as described at define().
                setClass({0 1}, 2, 4, {0..9}) -> state
                setClass({0 1}, 2, 4, {outside 0 9}) -> state
                setClass({0 1}, 1, 1, 1) -> state
                setClass(0, 1, 1, 0) -> 0; setClass(0, 3, 4, 0); setClass(0, 1, 1, 1) -> state; removeClass(0, 4); \
                    setClass(0, 1, 1, 1) -> 0; setClass(1, 1, 1, 1) -> state
                define(0, {5 9}, false, 4, 0); setClass(0, 4, 1, 1) -> state; setClass(0, {5 9}, 1, 1) -> 0
                addMethod(0, 4, 5, 3, 4) -> 8; setClass(0, 4, 2, 0) -> state; setClass(0, 4, 2, 1) -> 1; \
                    setClass(1, 4, 2, 0) -> 1; setMember(0, 8, 1, 0) -> 4; setClass(0, 4, 2, 0) -> 1
                addMethod(0, 4, 5, 3, 4); setClass(0, 4, 1, 1) -> 0; removeMember(0, 8); setClass(0, 4, 2, 0) -> 1
                // Also where the abstract method has the number 0.
                moveMember(0, 4, 4); removeMember(0, 0); removeMember(0, 0); removeMember(0, 0); removeMember(0, 0); \
                    memberInfo(0, 0, 1) -> 4; setClass(0, 4, 2, 0) -> state
                // An abstract method of a supertype is not a method of the class.
                removeMember(0, 5); setClass(0, 3, 2, 1) -> 0; setClass(0, 3, 2, 0) -> 1; classInfo(0, 3, 9) -> 1
                """);
    }

    private static void exists() {
        EDGE.promise(5, "Returns whether it exists.");
        EDGE.runs("""
                exists({0 1}, {0..4}) -> true
                exists({0 1}, {5..9}) -> false
                define(1, 9, true, 0, 0); exists(1, 9) -> true; exists(0, 9) -> false; undo(); exists(1, 9) -> false
                removeClass(0, 3); exists(0, 3) -> false; exists(1, 3) -> true; undo(); exists(0, 3) -> true
                """);

        EDGE.promise(5, "Throws IndexOutOfBoundsException if there is no such version, or c is not 0 to 9");
        EDGE.runs("""
                exists({0 1}, {outside 0 9}) -> index
                exists({outside 0 1}, {0 5 9}) -> index
                """);
    }

    private static void classInfo() {
        EDGE.promise(6, "0 to 5 as for setClass() (4: 0 for an interface, NONE for class 0)");
        EDGE.runs("""
                classInfo({0 1}, 0, 4) -> NONE; classInfo({0 1}, 2, 4) -> 0; classInfo({0 1}, 1, 4) -> 0; \
                    classInfo({0 1}, 3, 4) -> 1
                """);

        EDGE.promise(6, "7 the number of its members");
        EDGE.runs("""
                classInfo(0, 0, 7) -> 0; classInfo(0, 1, 7) -> 4; classInfo(0, 2, 7) -> 1; moveMember(0, 0, 3); \
                    classInfo(0, 1, 7) -> 3; classInfo(0, 3, 7) -> 3; removeMember(0, 0); classInfo(0, 3, 7) -> 2; \
                    classInfo(1, 1, 7) -> 4
                """);

        EDGE.promise(6, "Throws IndexOutOfBoundsException if there is no such version or class");
        EDGE.runs("""
                classInfo({0 1}, {outside 0 9}, {0 9}) -> index
                classInfo({0 1}, {5..9}, {0 9}) -> index
                classInfo({outside 0 1}, {0 4}, {0 9}) -> index
                """);

        EDGE.promise(6, "Throws IllegalArgumentException if what is not 0 to 9");
        EDGE.runs("""
                classInfo({0 1}, {0 2 3}, {outside 0 9}) -> argument
                """);
    }

    private static void incomplete() {
        EDGE.promise(6, "9 whether it is incomplete (0 or 1; for interfaces this is determined in the same way, as if "
                + "they were plain classes with class 0 as their superclass)");
        EDGE.runs("""
                classInfo(0, 0, 9) -> 0; classInfo(0, 2, 9) -> 1; removeMember(0, 4); classInfo(0, 2, 9) -> 0
                setMember(0, 4, 1, 0); classInfo(0, 2, 9) -> 0; setMember(0, 4, 1, 1); classInfo(0, 2, 9) -> 0
                define(0, 5, true, 0, 4); classInfo(0, 5, 9) -> 1; draft(1, 0, 0, 0); addMethod(0, 5, 2, 3, 0); \
                    classInfo(0, 5, 9) -> 0; setMember(0, 8, 1, 1); classInfo(0, 5, 9) -> 1
                // A method of class 1 does not help an interface, because its superclass is class 0.
                draft(1, 0, 0, 0); addMethod(0, 1, 2, 3, 0); classInfo(0, 2, 9) -> 1; define(0, 5, true, 1, 4); \
                    classInfo(0, 5, 9) -> 1; define(0, 6, false, 1, 4); classInfo(0, 6, 9) -> 0
                """);

        EDGE.term("A class is incomplete if some method, abstract, of one of its supertypes has a selected method for "
                + "the class that is abstract, or none.");
        EDGE.runs("""
                classInfo(0, 4, 9) -> 0; addMethod(0, 4, 5, 3, 4); classInfo(0, 4, 9) -> 1; \
                    define(0, 5, false, 4, 0); classInfo(0, 5, 9) -> 1; addMethod(0, 5, 5, 1, 0); \
                    classInfo(0, 5, 9) -> 0; setMember(0, 9, 0, 0); classInfo(0, 5, 9) -> 1
                """);
        EDGE.runs("define(0, 5, true, 0, 4); define(0, 6, true, 0, 4); define(0, 7, false, 0, 96); "
                + "draft(1, 0, 0, 0); addMethod(0, 5, 2, 3, 0);", """
                // Two default methods are as good as none; one of them below the other is enough.
                classInfo(0, 7, 9) -> 0; addMethod(0, 6, 2, 3, 0); classInfo(0, 7, 9) -> 1; setClass(0, 6, 5, 32); \
                    classInfo(0, 7, 9) -> 0
                // Two defaults without an abstract method above are not asked for.
                addMethod(0, 6, 2, 3, 0); setMember(0, 4, 1, 0); classInfo(0, 7, 9) -> 0
                """);
    }

    private static void copyVersion() {
        EDGE.promise(7, "Makes all classes and members of the new version the same as those of the old one.");
        EDGE.runs("""
                define(1, 9, true, 0, 0); setClass(1, 3, 0, 0); removeMember(1, 0); copyVersion() -> 8; \
                    exists(1, 9) -> false; classInfo(1, 3, 0) -> 1; memberInfo(1, 0, 3) -> 0; members(1) -> 8
                removeClass(0, 3); removeClass(0, 4); copyVersion() -> 5; exists(1, 3) -> false; \
                    exists(1, 4) -> false; removeMember(1, 0) -> 4; members(0) -> 5; define(1, 3, true, 0, 0) -> 4; \
                    exists(0, 3) -> false
                setMember(1, 1, 2, 50); copyVersion() -> 8; memberInfo(1, 1, 2) -> 7; memberInfo(0, 1, 2) -> 7
                // The clients keep what they had.
                setMember(0, 1, 2, 50); copyVersion(); clientInfo(0, 7) -> 7; verdict(0) -> 4; clients() -> 3
                """);

        EDGE.promise(7, "Returns the number of members.");
        EDGE.runs(Edge.repeat(8, "removeMember(0, 0)"), """
                copyVersion() -> 0; members(1) -> 0; classInfo(1, 1, 7) -> 0
                """);
        StringBuilder full = new StringBuilder();
        for (int c = 1; c <= 4; c++) {
            full.append("draft(-1, 2, " + c + ", 9);");
            for (int name = 0; name <= 7; name++) {
                full.append("addMethod(0, " + c + ", " + name + ", 3, 0);");
            }
        }
        EDGE.runs(full.toString(), """
                copyVersion() -> 40; members(1) -> 40; memberInfo(1, 39, 4) -> 4; memberInfo(1, 39, 8) -> 4; \
                    memberInfo(1, 39, 9) -> 9; memberInfo(1, 40, 0) -> index; addField(1, 1, 7, 3, 0) -> state
                """);
    }
}
