/** The boundary cases of MEMBERS and THE DRAFT and of the promises 8 to 15, sentence by sentence. */
public final class EdgesOfMembersTest {
    private static final Edge EDGE = new Edge("EdgesOfMembersTest");

    /** Version 0 has 39 members then; the last one is method 6 of class 4. */
    private static final String ALMOST_FULL = filled(31);
    private static final String FULL = filled(32);

    public static void main(String[] args) {
        fortyMembers();
        numbers();
        partsOfMembers();
        kindsOfMembers();
        firstDraft();
        draft();
        draftRefused();
        addField();
        addFieldRefused();
        addMethod();
        addMethodRefused();
        removeMember();
        setMember();
        setMemberRefused();
        setAccess();
        setFlags();
        setConstant();
        moveMember();
        moveMemberRefused();
        members();
        memberInfo();
        EDGE.end();
    }

    private static String filled(int many) {
        StringBuilder calls = new StringBuilder();
        for (int k = 0; k < many; k++) {
            if (k % 8 == 0) {
                calls.append("draft(-1, 2, 9, 9);");
            }
            calls.append("addMethod(0, " + (1 + k / 8) + ", " + k % 8 + ", 3, 0) -> " + (8 + k) + ";");
        }
        return calls.append("draft(-1, 0, 0, 0);").toString();
    }

    private static void fortyMembers() {
        EDGE.term("Each version has at most 40 members");
        EDGE.runs(ALMOST_FULL, """
                members(0) -> 39; addField(0, 4, 5, 3, 0) -> 39; members(0) -> 40; addField(0, 4, 6, 3, 0) -> state; \
                    addMethod(0, 4, 5, 3, 0) -> state; members(0) -> 40
                members(0) -> 39; addMethod(0, 4, 5, 3, 0) -> 39; members(0) -> 40; \
                    addMethod(0, 4, 6, 3, 0) -> state; addField(0, 4, 5, 3, 0) -> state; members(0) -> 40
                """);
        EDGE.runs(FULL, """
                addField(1, 1, 5, 3, 0) -> 8; members(1) -> 9; members(0) -> 40
                removeMember(0, {0 20 39}) -> 39; addField(0, 4, 5, 3, 0) -> 39; addField(0, 4, 6, 3, 0) -> state
                removeClass(0, 4) -> 9; members(0) -> 31
                // Calls that add no member go on.
                moveMember(0, 39, 3) -> state; moveMember(0, 7, 3) -> 4; setMember(0, 39, 0, 0) -> 3; members(0) -> 40
                memberInfo(0, 39, 5) -> 7; draft(-1, 2, 9, 9); method(0, 4, 7) -> 39; selected(0, 39, 4) -> 39; \
                    sample(1, 0, 0) -> 2; copyVersion() -> 40; sample(1, 0, 0) -> NONE
                undo() -> 4; members(0) -> 39
                """);
    }

    private static void numbers() {
        EDGE.term("numbered from 0 in the order in which they were added; when a member is removed, the numbers of "
                + "those behind it decrease by 1");
        EDGE.runs("addField(0, 3, 7, 3, 0) -> 8; addMethod(0, 3, 6, 3, 0) -> 9;", """
                removeMember(0, 0) -> 9; memberInfo(0, 0, 5) -> 1; memberInfo(0, 7, 5) -> 7; \
                    memberInfo(0, 8, 5) -> 6; memberInfo(0, 9, 5) -> index; memberInfo(1, 0, 5) -> 0
                removeMember(0, 8) -> 9; memberInfo(0, 7, 4) -> 4; memberInfo(0, 8, 5) -> 6; field(0, 3, 7) -> NONE; \
                    method(0, 3, 6) -> 8; addField(0, 3, 5, 3, 0) -> 9
                removeMember(0, 9) -> 9; memberInfo(0, 8, 5) -> 7; memberInfo(0, 9, 5) -> index; \
                    addMethod(0, 3, 4, 3, 0) -> 9; memberInfo(0, 9, 5) -> 4
                // All that a member has goes with its number.
                removeMember(0, 0); memberInfo(0, 0, 0) -> 3; memberInfo(0, 0, 1) -> 3; memberInfo(0, 0, 2) -> 7; \
                    memberInfo(0, 0, 3) -> 0; memberInfo(0, 2, 0) -> 2; memberInfo(0, 2, 3) -> 1; \
                    memberInfo(0, 2, 7) -> 1; memberInfo(0, 2, 8) -> 1; memberInfo(0, 3, 1) -> 4; \
                    memberInfo(0, 3, 6) -> 1; memberInfo(0, 3, 4) -> 2
                draft(5, 2, 6, 7); addMethod(0, 3, 5, 3, 0) -> 10; removeMember(0, {0 9}) -> 10; \
                    memberInfo(0, 9, 5) -> 5; memberInfo(0, 9, 6) -> 5; memberInfo(0, 9, 7) -> 2; \
                    memberInfo(0, 9, 8) -> 6; memberInfo(0, 9, 9) -> 7; method(0, 3, 5) -> 9; \
                    addMethod(0, 3, 5, 3, 0) -> state
                """);
    }

    private static void partsOfMembers() {
        EDGE.term("It has a name (0 to 7) and an access (0 private, 1 package, 2 protected, 3 public), and can be "
                + "static, final and abstract");
        EDGE.runs("""
                addField(0, 3, {0..7}, {0..3}, 0) -> 8; memberInfo(0, 8, 5) -> {0..7}; memberInfo(0, 8, 0) -> {0..3}
                addMethod(0, 4, {0..7}, {0..3}, 0) -> 8; memberInfo(0, 8, 5) -> {0..7}; memberInfo(0, 8, 0) -> {0..3}
                {addField addMethod}(0, 4, {outside 0 7}, 3, 0) -> argument
                {addField addMethod}(0, 4, 5, {outside 0 3}, 0) -> argument
                """);

        EDGE.term("flags are given as a sum of 1 for static, 2 for final and 4 for abstract");
        EDGE.runs("""
                addField(0, 3, 5, 3, {0..3}) -> 8; memberInfo(0, 8, 1) -> {0..3}
                addMethod(0, 4, 5, 3, {0..4}) -> 8; memberInfo(0, 8, 1) -> {0..4}
                addMethod(0, 4, 5, 3, {1 3}); selected(0, 8, 4) -> argument
                addMethod(0, 4, 5, 3, {0 2}); selected(0, 8, 4) -> 8; classInfo(0, 4, 9) -> 0
                addMethod(0, 4, 5, 3, 4); selected(0, 8, 4) -> 8; classInfo(0, 4, 9) -> 1
                addField(0, 4, 5, 3, {0 1}); addClient(1, 4, 5, 0) -> 3; clientInfo(3, 9) -> {0 1}
                addField(0, 4, 5, 3, {2 3}); addClient(1, 4, 5, 0) -> argument
                """);

        EDGE.term("a static final field of type int can have a constant value from -99 to 99, other than -2");
        EDGE.runs("""
                setMember(0, 1, 2, {-99..99}) -> 7; memberInfo(0, 1, 2) -> {-99..99}
                setMember(0, 1, 2, {-100 100}) -> argument
                // -2 is no constant value: it takes the constant value away.
                setMember(0, 1, 2, -2) -> 7; memberInfo(0, 1, 2) -> NONE; addClient(0, 1, 1, 0) -> 3; \
                    clientInfo(3, 6) -> 0; clientInfo(3, 7) -> NONE; clientInfo(3, 8) -> INT
                setMember(0, 1, 2, {-3 -1}) -> 7; addClient(0, 1, 1, 0) -> 3; clientInfo(3, 6) -> 1; \
                    clientInfo(3, 7) -> {-3 -1}; clientInfo(3, 8) -> NONE
                """);

        EDGE.term("A method has 0 to 2 parameters, which are types, and a result, which is a type. (The types need not "
                + "exist as classes.)");
        EDGE.runs("""
                draft({-1 9}, 0, 5, 5); addMethod(0, 1, 5, 3, 0) -> 8; memberInfo(0, 8, 6) -> {-1 9}; \
                    memberInfo(0, 8, 7) -> 0; memberInfo(0, 8, 8) -> NONE; memberInfo(0, 8, 9) -> NONE
                draft({-1 9}, 1, {-1 9 }, 5); addMethod(0, 1, 5, 3, 0) -> 8; memberInfo(0, 8, 6) -> {-1 9}; \
                    memberInfo(0, 8, 7) -> 1; memberInfo(0, 8, 8) -> {-1 9 }; memberInfo(0, 8, 9) -> NONE
                draft({-1 9}, 2, {-1 9 }, { -1 9}); addMethod(0, 1, 5, 3, 0) -> 8; memberInfo(0, 8, 6) -> {-1 9}; \
                    memberInfo(0, 8, 7) -> 2; memberInfo(0, 8, 8) -> {-1 9 }; memberInfo(0, 8, 9) -> { -1 9}
                draft(9, 0, 0, 0); addField(0, 1, 5, 3, 0) -> 8; memberInfo(0, 8, 6) -> 9; exists(0, 9) -> false
                """);
    }

    private static void kindsOfMembers() {
        EDGE.term("A class has at most one field with a name, and at most one method with a signature.");
        EDGE.runs("""
                addField(0, 1, {0 1}, 0, 0) -> state; addField(0, 1, {2..7}, 0, 0) -> 8
                draft(9, 0, 0, 0); addField(0, 1, {0 1}, 3, 0) -> state
                // A field and a method with the same name do not meet, nor do other classes.
                addField(0, 3, 2, 3, 0) -> 8; addField(0, 4, 0, 3, 0) -> 9
                draft(-1, 0, 0, 0); addMethod(0, 1, 0, 3, 0) -> state; addMethod(0, 4, 0, 3, 0) -> 8
                // The result is no part of a signature; the number and the order of the parameters is.
                draft(9, 0, 0, 0); addMethod(0, 1, 0, 3, 0) -> state
                draft(9, 1, 1, 0); addMethod(0, 1, 1, 3, 0) -> state; addMethod(0, 1, 0, 3, 0) -> 8
                draft(-1, 2, 1, 3); addMethod(0, 1, 1, 3, 0) -> 8; draft(-1, 2, 3, 1); addMethod(0, 1, 1, 3, 0) -> 9; \
                    draft(-1, 2, 1, 1); addMethod(0, 1, 1, 3, 0) -> 10; draft(-1, 1, -1, 0); \
                    addMethod(0, 1, 1, 3, 0) -> 11; draft(-1, 0, 0, 0); addMethod(0, 1, 1, 3, 0) -> 12
                draft(-1, 2, -1, 0); addMethod(0, 1, 0, 3, 0) -> 8; draft(-1, 2, 0, -1); addMethod(0, 1, 0, 3, 0) -> 9
                // Also where the member that is in the way has the number 0.
                removeMember(0, 0); removeMember(0, 0); addMethod(0, 1, 0, 3, 0) -> state; addMethod(0, 1, 1, 3, 0) -> 6
                addField(0, 1, 0, 3, 0) -> state; removeMember(0, 1); addField(0, 1, 0, 3, 0) -> state
                // Where the number is free again, it can be used again.
                removeMember(0, 2); addMethod(0, 1, 0, 3, 0) -> 7; addMethod(0, 1, 0, 3, 0) -> state
                removeMember(0, 0); addField(0, 1, 0, 3, 0) -> 7; addField(0, 1, 0, 3, 0) -> state
                """);

        EDGE.term("Fields are never abstract.");
        EDGE.runs("""
                addField(0, {1 2 4}, 5, 3, {4..7}) -> argument
                setMember(0, {0 1}, 1, {4..7}) -> argument
                moveMember(0, 0, 4); setMember(0, 0, 1, {4..7}) -> argument
                """);

        EDGE.term("Abstract methods are neither static, final nor private, and exist only in abstract classes.");
        EDGE.runs("""
                addMethod(0, 4, 5, {1 2 3}, 4) -> 8; addMethod(0, 4, 6, 0, 4) -> argument
                addMethod(0, {2 4}, 5, 3, {5 6 7}) -> argument
                addMethod(0, {0 1 3}, 5, 3, 4) -> argument
                addMethod(0, {2 4}, 5, 3, 4) -> 8
                setMember(0, 7, 1, {5 6 7}) -> argument; setMember(0, 7, 1, 4) -> 0; setMember(0, 7, 0, 0) -> argument
                setMember(0, 7, 0, 0) -> 3; setMember(0, 7, 1, 4) -> argument
                setMember(0, {2 3 5 6}, 1, {4..7}) -> argument
                setClass(0, 4, 2, 0); addMethod(0, 4, 5, 3, 4) -> argument; setMember(0, 7, 1, 4) -> argument
                moveMember(0, 4, {0 1 3}) -> argument; moveMember(0, 4, 4) -> 2
                addMethod(0, 4, 5, 3, 4); setClass(0, 4, 2, 0) -> state
                """);

        EDGE.term("In interfaces all members are public, fields are static and final, and methods are not final.");
        EDGE.runs("""
                addField(0, 2, 5, {0 1 2}, 3) -> argument
                addField(0, 2, 5, 3, {0 1 2}) -> argument
                addField(0, 2, 5, 3, 3) -> 8; setMember(0, 8, 0, {0 1 2}) -> argument; setMember(0, 8, 0, 3) -> 3; \
                    setMember(0, 8, 1, {0 1 2 }) -> argument; setMember(0, 8, 1, 3) -> 3
                addMethod(0, 2, 5, {0 1 2}, {0 1 4}) -> argument
                addMethod(0, 2, 5, 3, {2 3 6 7}) -> argument
                addMethod(0, 2, 5, 3, {0 1 4}) -> 8; setMember(0, 8, 0, {0 1 2}) -> argument; \
                    setMember(0, 8, 1, {2 3 5 6 7}) -> argument; setMember(0, 8, 1, {0 1 4 }) -> {0 1 4}
                moveMember(0, {0 3}, 2) -> argument; moveMember(0, {1 2}, 2) -> 1
                setMember(0, 2, 1, {2 3}); moveMember(0, 2, 2) -> argument
                """);
    }

    private static void firstDraft() {
        EDGE.term("The draft holds a result type and 0 to 2 parameter types, first the result -1 and no parameters.");
        EDGE.runs("""
                draft(5, 2, 5, 5) -> 0
                addMethod(0, 1, 5, 3, 0) -> 8; memberInfo(0, 8, 6) -> -1; memberInfo(0, 8, 7) -> 0
                addField(0, 1, 5, 3, 0) -> 8; memberInfo(0, 8, 6) -> -1
                """);

        EDGE.term("It is used when members and clients are added and when methods are searched.");
        EDGE.runs("""
                draft(5, 1, 6, 7); addField(0, 1, 5, 3, 0) -> 8; memberInfo(0, 8, 6) -> 5
                draft(5, 1, 6, 7); addMethod(0, 1, 5, 3, 0) -> 8; memberInfo(0, 8, 6) -> 5; memberInfo(0, 8, 8) -> 6
                addClient(2, 4, 1, 0) -> argument; draft(5, 1, 3, 7); addClient(2, 4, 1, 0) -> 3; clientInfo(3, 5) -> 1
                method(0, 4, 1) -> NONE; draft(-1, 1, 3, 7); method(0, 4, 1) -> 7; draft(-1, 1, 1, 7); \
                    method(0, 4, 1) -> 3
                """);
    }

    private static void draft() {
        EDGE.promise(8, "Returns the number of parameters before.");
        EDGE.runs("""
                draft(0, {0 1 2}, 0, 0) -> 0; draft(0, 2, 0, 0) -> {0 1 2}; draft(0, 1, 0, 0) -> 2; \
                    draft(0, 0, 0, 0) -> 1; draft(0, 0, 0, 0) -> 0
                """);

        EDGE.promise(8, "first: the type of the first parameter (without effect if there is none)");
        EDGE.runs("""
                draft(5, 0, {outside -1 9}, 0) -> 0; addMethod(0, 1, 5, 3, 0) -> 8; memberInfo(0, 8, 8) -> NONE
                draft(5, 0, 3, 0) -> 0; addMethod(0, 1, 5, 3, 0) -> 8; memberInfo(0, 8, 7) -> 0; \
                    memberInfo(0, 8, 8) -> NONE
                // What an earlier draft had is gone: the signature has no parameter.
                draft(-1, 2, 3, 4); draft(-1, 0, 3, 4); addMethod(0, 1, 0, 3, 0) -> state; method(0, 1, 0) -> 2
                """);

        EDGE.promise(8, "second: the type of the second parameter (without effect if there is none)");
        EDGE.runs("""
                draft(5, {0 1}, 3, {outside -1 9}) -> 0; addMethod(0, 1, 5, 3, 0) -> 8; memberInfo(0, 8, 9) -> NONE
                draft(5, {0 1}, 3, 4) -> 0; addMethod(0, 1, 5, 3, 0) -> 8; memberInfo(0, 8, 7) -> {0 1}; \
                    memberInfo(0, 8, 9) -> NONE
                draft(-1, 2, 1, 4); draft(-1, 1, 1, 4); addMethod(0, 1, 1, 3, 0) -> state; method(0, 1, 1) -> 3
                """);
    }

    private static void draftRefused() {
        EDGE.promise(8, "Throws IllegalArgumentException if many is not 0 to 2, or result or one of the parameters "
                + "that there are is not from -1 to 9");
        EDGE.runs("""
                draft(0, {outside 0 2}, 0, 0) -> argument
                draft({outside -1 9}, {0 1 2}, 0, 0) -> argument
                draft(0, {1 2}, {outside -1 9}, 0) -> argument
                draft(0, 2, 0, {outside -1 9}) -> argument
                draft({-1..9}, 2, {-1..9 }, { -1..9}) -> 0
                // The draft is then as it was, with its result and both of its parameter types.
                draft(5, 2, 6, 7); draft(8, 3, 8, 8) -> argument; draft(10, 1, 8, 8) -> argument; \
                    draft(8, 1, 10, 8) -> argument; draft(8, 2, 8, 10) -> argument; addMethod(0, 1, 5, 3, 0) -> 8; \
                    memberInfo(0, 8, 6) -> 5; memberInfo(0, 8, 7) -> 2; memberInfo(0, 8, 8) -> 6; \
                    memberInfo(0, 8, 9) -> 7; draft(0, 0, 0, 0) -> 2
                """);
    }

    private static void addField() {
        EDGE.promise(9, "Adds a field, whose type is the result type of the draft, without a constant value.");
        EDGE.runs("""
                draft({-1..9}, 2, 3, 3); addField(0, 3, 5, 3, 3) -> 8; memberInfo(0, 8, 6) -> {-1..9}; \
                    memberInfo(0, 8, 2) -> NONE; memberInfo(0, 8, 3) -> 0; memberInfo(0, 8, 4) -> 3; \
                    memberInfo(0, 8, 7) -> NONE; memberInfo(0, 8, 8) -> NONE; memberInfo(0, 8, 9) -> NONE
                // Also where a field with a constant value had the number before.
                removeMember(0, 7); removeMember(0, 6); removeMember(0, 5); removeMember(0, 4); removeMember(0, 3); \
                    removeMember(0, 2); removeMember(0, 1); addField(0, 3, 5, 3, 3) -> 1; memberInfo(0, 1, 2) -> NONE
                """);

        EDGE.promise(9, "Returns the number of the member.");
        EDGE.runs("""
                addField(0, 1, 5, 3, 0) -> 8; addField(0, 1, 6, 3, 0) -> 9; addField(1, 1, 6, 3, 0) -> 8
                """);
        EDGE.runs(Edge.repeat(8, "removeMember(1, 0)"), """
                addField(1, 1, 0, 3, 0) -> 0; addField(1, 1, 1, 3, 0) -> 1
                """);
    }

    private static void addFieldRefused() {
        EDGE.promise(9, "Throws IndexOutOfBoundsException if there is no such version or class");
        EDGE.runs("""
                addField({outside 0 1}, {0 1 2}, 5, 3, 3) -> index
                addField({0 1}, {5..9}, 5, 3, 0) -> index
                addField({0 1}, {outside 0 9}, 5, 3, 0) -> index
                """);

        EDGE.promise(9, "Throws IllegalArgumentException if name, access or flags is out of range, or, for an "
                + "interface, access is not 3 or flags is not 3");
        EDGE.runs("""
                addField(0, {0 1 2}, {outside 0 7}, 3, 3) -> argument
                addField(0, {0 1 2}, 5, {outside 0 3}, 3) -> argument
                addField(0, {0 1 2}, 5, 3, {outside 0 3}) -> argument
                addField(0, 2, 5, {0 1 2}, {0..3}) -> argument
                addField(0, 2, 5, 3, {0 1 2}) -> argument
                addField(0, 2, {0 7}, 3, 3) -> 8
                addField(0, 4, {0 7}, {0 3}, {0 3 }) -> 8
                """);

        EDGE.promise(9, "Throws IllegalStateException if c is 0, the class has a field with this name, or the version "
                + "has 40 members");
        EDGE.runs("""
                addField({0 1}, 0, 5, {0..3}, {0..3 }) -> state
                addField({0 1}, 1, {0 1 }, {0..3}, {0..3 }) -> state
                addField(0, 2, 0, 3, 3) -> 8; addField(0, 2, 0, 3, 3) -> state; addField(1, 2, 0, 3, 3) -> 8
                moveMember(0, 0, 3); addField(0, 3, 0, 3, 0) -> state; addField(0, 1, 0, 3, 0) -> 8
                """);
        EDGE.runs(FULL, """
                addField(0, {1 3 4}, 7, 3, 0) -> state
                addField(0, 2, 7, 3, 3) -> state
                """);
    }

    private static void addMethod() {
        EDGE.promise(10, "Adds a method with the parameters and the result of the draft.");
        EDGE.runs("""
                draft(5, 2, 6, 7); addMethod(0, 4, 5, 2, 2) -> 8; memberInfo(0, 8, 0) -> 2; memberInfo(0, 8, 1) -> 2; \
                    memberInfo(0, 8, 2) -> NONE; memberInfo(0, 8, 3) -> 1; memberInfo(0, 8, 4) -> 4; \
                    memberInfo(0, 8, 5) -> 5; memberInfo(0, 8, 6) -> 5; memberInfo(0, 8, 7) -> 2; \
                    memberInfo(0, 8, 8) -> 6; memberInfo(0, 8, 9) -> 7
                // A draft that is set later does not change it.
                draft(5, 1, 6, 7); addMethod(0, 4, 5, 3, 0); draft(1, 2, 2, 2); memberInfo(0, 8, 6) -> 5; \
                    memberInfo(0, 8, 7) -> 1; memberInfo(0, 8, 8) -> 6; memberInfo(0, 8, 9) -> NONE
                """);

        EDGE.promise(10, "Returns the number of the member.");
        EDGE.runs("""
                addMethod(0, 1, 5, 3, 0) -> 8; addMethod(0, 1, 6, 3, 0) -> 9; addMethod(1, 1, 6, 3, 0) -> 8
                """);
        EDGE.runs(Edge.repeat(8, "removeMember(1, 0)"), """
                addMethod(1, 1, 0, 3, 0) -> 0; addMethod(1, 1, 1, 3, 0) -> 1
                """);
    }

    private static void addMethodRefused() {
        EDGE.promise(10, "Throws IndexOutOfBoundsException if there is no such version or class");
        EDGE.runs("""
                addMethod({outside 0 1}, {0 1 2}, 5, 3, 0) -> index
                addMethod({0 1}, {5..9}, 5, 3, 0) -> index
                addMethod({0 1}, {outside 0 9}, 5, 3, 0) -> index
                """);

        EDGE.promise(10, "Throws IllegalArgumentException if name, access or flags is out of range, or the method "
                + "would not be as described under MEMBERS (abstract and private, static or final, or in a class that "
                + "is not abstract; in an interface not public, or final)");
        EDGE.runs("""
                addMethod(0, {0 1 2 4}, {outside 0 7}, 3, 0) -> argument
                addMethod(0, {0 1 2 4}, 5, {outside 0 3}, 0) -> argument
                addMethod(0, {0 1 2 4}, 5, 3, {outside 0 7}) -> argument
                addMethod(0, 4, 5, 0, 4) -> argument
                addMethod(0, 4, 5, {0..3}, {5 6 7}) -> argument
                addMethod(0, {0 1 3}, 5, {0..3}, {4..7}) -> argument
                addMethod(0, 2, 5, {0 1 2}, {0..7}) -> argument
                addMethod(0, 2, 5, 3, {2 3 5 6 7}) -> argument
                addMethod(0, 2, {0 7}, 3, {0 1 4}) -> 8
                addMethod(0, 3, {1 7}, {0..3}, {0..3 }) -> 8
                addMethod(0, 4, {0 7}, {1 2 3}, 4) -> 8
                """);

        EDGE.promise(10, "Throws IllegalStateException if c is 0, the class has a method with this signature, or the "
                + "version has 40 members");
        EDGE.runs("""
                addMethod({0 1}, 0, 5, {0..3}, {0..3 }) -> state
                addMethod({0 1}, {1 3}, 0, {0..3}, {0..3 }) -> state
                draft({-1..9}, 0, 0, 0); addMethod(0, 3, {0 2}, 3, 0) -> state
                draft({-1..9}, 1, 1, 0); addMethod(0, 1, 1, 3, 0) -> state; addMethod(0, 3, 1, 3, 0) -> 8
                moveMember(0, 7, 3); draft(-1, 1, 3, 0); addMethod(0, 3, 1, 3, 0) -> state; \
                    addMethod(0, 4, 1, 3, 0) -> 8
                """);
        EDGE.runs(FULL, """
                addMethod(0, {1 2 3 4}, 7, 3, 0) -> state
                """);
    }

    private static void removeMember() {
        EDGE.promise(11, "Returns the number of members of the version then.");
        EDGE.runs("""
                removeMember(0, {0 7}) -> 7; members(0) -> 7; members(1) -> 8
                removeMember(1, 0) -> 7; removeMember(1, 0) -> 6; removeMember(1, 0) -> 5; removeMember(1, 0) -> 4; \
                    removeMember(1, 0) -> 3; removeMember(1, 0) -> 2; removeMember(1, 0) -> 1; \
                    removeMember(1, 0) -> 0; members(1) -> 0; removeMember(1, 0) -> index; members(0) -> 8
                """);
        EDGE.runs(FULL, """
                removeMember(0, {0 39}) -> 39
                """);

        EDGE.promise(11, "Throws IndexOutOfBoundsException if there is no such version or member");
        EDGE.runs("""
                removeMember({0 1}, {outside 0 7}) -> index
                removeMember({outside 0 1}, 0) -> index
                removeMember(0, 7); removeMember(0, 7) -> index; removeMember(1, 7) -> 7
                """);
        EDGE.runs(FULL, """
                removeMember(0, 40) -> index; removeMember(1, 8) -> index
                """);
    }

    private static void setMember() {
        EDGE.promise(12, "A field that is not static and final any more loses its constant value.");
        EDGE.runs("""
                setMember(0, 1, 1, {0 1 2}) -> 3; memberInfo(0, 1, 2) -> NONE; setMember(0, 1, 1, 3) -> {0 1 2}; \
                    memberInfo(0, 1, 2) -> NONE; memberInfo(1, 1, 2) -> 7
                setMember(0, 1, 1, 3) -> 3; memberInfo(0, 1, 2) -> 7
                setMember(0, 1, 0, {0..3}) -> 3; memberInfo(0, 1, 2) -> 7
                setMember(0, 1, 1, 0); undo(); memberInfo(0, 1, 2) -> 7
                moveMember(0, 1, {2 3 4}); memberInfo(0, 1, 2) -> 7
                """);

        EDGE.promise(12, "Returns the previous value (for 2 NONE if there was none).");
        EDGE.runs("""
                setMember(0, 0, 0, {0..3}) -> 3; setMember(0, 0, 0, 3) -> {0..3}
                setMember(0, 0, 1, {0..3}) -> 0; setMember(0, 0, 1, 0) -> {0..3}
                setMember(0, 1, 2, NONE) -> 7; setMember(0, 1, 2, NONE) -> NONE; setMember(0, 1, 2, -99) -> NONE; \
                    setMember(0, 1, 2, 99) -> -99; setMember(0, 1, 2, 0) -> 99; setMember(0, 1, 2, NONE) -> 0
                setMember(0, 0, 2, NONE) -> NONE
                """);
    }

    private static void setMemberRefused() {
        EDGE.promise(12, "Throws IndexOutOfBoundsException if there is no such version or member");
        EDGE.runs("""
                setMember({0 1}, {outside 0 7}, 0, 3) -> index
                setMember({outside 0 1}, 0, 0, 3) -> index
                removeMember(0, 0); setMember(0, 7, 0, 3) -> index; setMember(1, 7, 0, 3) -> 3
                """);

        EDGE.promise(12, "Throws IllegalArgumentException if what is not 0 to 2, or value is out of range for the "
                + "member");
        EDGE.runs("""
                setMember(0, {0 1 2 4}, {outside 0 2}, {0 3}) -> argument
                setMember(0, {0 1 2 4}, {3..9}, {0 3}) -> argument
                """);
    }

    private static void setAccess() {
        EDGE.promise(12, "0: 0 to 3, in interfaces 3, not 0 for an abstract method");
        EDGE.runs("""
                setMember(0, {0..7}, 0, {outside 0 3}) -> argument
                setMember(0, {0 1 2 5 6 7}, 0, {0..3}) -> 3
                setMember(0, 3, 0, {0..3}) -> 2
                setMember(0, 4, 0, {0 1 2}) -> argument; setMember(0, 4, 0, 3) -> 3
                setMember(0, 4, 1, {0 1}); setMember(0, 4, 0, {0 1 2}) -> argument; setMember(0, 4, 0, 3) -> 3
                addField(0, 2, 5, 3, 3); setMember(0, 8, 0, {0 1 2}) -> argument; setMember(0, 8, 0, 3) -> 3
                addMethod(0, 4, 5, 3, 4); setMember(0, 8, 0, 0) -> argument; setMember(0, 8, 0, {1 2 3}) -> 3
                """);
    }

    private static void setFlags() {
        EDGE.promise(12, "1: as for addField() or addMethod(), with its access");
        EDGE.runs("""
                setMember(0, {0 1}, 1, {outside 0 3}) -> argument
                setMember(0, 0, 1, {0..3}) -> 0
                setMember(0, {2..7}, 1, {outside 0 7}) -> argument
                setMember(0, {2 3 5 6 7}, 1, {0..3}) -> 0
                setMember(0, {2 3 5 6}, 1, {4..7}) -> argument
                setMember(0, 7, 1, 4) -> 0; setMember(0, 7, 1, {5 6 7}) -> argument
                setMember(0, 7, 0, {1 2}); setMember(0, 7, 1, 4) -> 0
                setMember(0, 7, 0, 0); setMember(0, 7, 1, {4..7}) -> argument; setMember(0, 7, 1, {0..3}) -> 0
                setMember(0, 4, 1, {0 1 4}) -> 4; setMember(0, 4, 1, {2 3 5 6 7}) -> argument
                addField(0, 2, 5, 3, 3); setMember(0, 8, 1, {0 1 2 4 7}) -> argument; setMember(0, 8, 1, 3) -> 3
                """);
    }

    private static void setConstant() {
        EDGE.promise(12, "2: for fields NONE, which takes the constant value away, for static final fields of type int "
                + "also the others from -99 to 99; no value for a method");
        EDGE.runs("""
                setMember(0, 1, 2, {outside -99 99}) -> argument
                setMember(0, 1, 2, {-99 -3 -2 -1 0 1 99}) -> 7
                setMember(0, 0, 2, {-99 -3 -1 0 99}) -> argument; setMember(0, 0, 2, NONE) -> NONE
                setMember(0, 0, 1, {1 2}); setMember(0, 0, 2, {-99 -3 -1 0 99}) -> argument; \
                    setMember(0, 0, 2, NONE) -> NONE
                setMember(0, 0, 1, 3); setMember(0, 0, 2, {-99 -3 -1 0 99}) -> NONE
                draft({0..9}, 0, 0, 0); addField(0, 3, 5, 3, 3); setMember(0, 8, 2, {-99 0 99}) -> argument; \
                    setMember(0, 8, 2, NONE) -> NONE
                addField(0, 2, 5, 3, 3); setMember(0, 8, 2, 99) -> NONE; setMember(0, 8, 2, 100) -> argument
                setMember(0, {2..7}, 2, {-99 NONE INT 0 99}) -> argument
                setMember(0, 2, 1, 3); setMember(0, 2, 2, {NONE 5}) -> argument
                """);
    }

    private static void moveMember() {
        EDGE.promise(13, "Moves a member to another class of its version, with its number.");
        EDGE.runs("""
                moveMember(0, 0, 3); memberInfo(0, 0, 4) -> 3; members(0) -> 8; memberInfo(0, 0, 5) -> 0; \
                    memberInfo(1, 0, 4) -> 1; field(0, 1, 0) -> NONE; field(0, 3, 0) -> 0
                moveMember(0, 7, 3); memberInfo(0, 7, 4) -> 3; memberInfo(0, 7, 8) -> 3; draft(-1, 1, 3, 0); \
                    method(0, 3, 1) -> 7; method(0, 4, 1) -> NONE
                """);

        EDGE.promise(13, "Returns the class that it belonged to.");
        EDGE.runs("""
                moveMember(0, 0, 4) -> 1; moveMember(0, 0, 3) -> 4; moveMember(0, 0, 1) -> 3
                define(0, 9, false, 0, 0); moveMember(0, 7, 9) -> 4; moveMember(0, 7, 1) -> 9
                """);
    }

    private static void moveMemberRefused() {
        EDGE.promise(13, "Throws IndexOutOfBoundsException if there is no such version, member or class");
        EDGE.runs("""
                moveMember({outside 0 1}, 0, 3) -> index
                moveMember({0 1}, {outside 0 7}, 3) -> index
                moveMember({0 1}, {0 4}, {5..9}) -> index
                moveMember({0 1}, {0 4}, {outside 0 9}) -> index
                """);

        EDGE.promise(13, "Throws IllegalArgumentException if it is an abstract method and the class is not abstract, "
                + "or if the class is an interface and the member is not public, or a field that is not static and "
                + "final, or a final method");
        EDGE.runs("""
                moveMember(0, 4, {0 1 3}) -> argument; moveMember(0, 4, 4) -> 2
                define(0, 9, {false true}, 0, 0); addMethod(0, 4, 5, 3, 4); moveMember(0, 8, {1 3}) -> argument; \
                    moveMember(0, 8, 2) -> 4
                setMember(0, 2, 0, {0 1 2}); moveMember(0, 2, 2) -> argument
                setMember(0, 1, 0, {0 1 2}); moveMember(0, 1, 2) -> argument
                setMember(0, 0, 1, {0 1 2}); moveMember(0, 0, 2) -> argument
                setMember(0, 0, 1, 3); moveMember(0, 0, 2) -> 1
                setMember(0, 2, 1, {2 3}); moveMember(0, 2, 2) -> argument
                setMember(0, 2, 1, {0 1}); moveMember(0, 2, 2) -> 1
                """);

        EDGE.promise(13, "Throws IllegalStateException if c is 0, or the class has a field with this name or a method "
                + "with this signature (possibly the member itself)");
        EDGE.runs("""
                moveMember({0 1}, {0 1 2 3 5 6 7}, 0) -> state
                moveMember({0 1}, {0 1 2 3}, 1) -> state
                moveMember({0 1}, 4, 2) -> state; moveMember({0 1}, {5 6}, 3) -> state; moveMember({0 1}, 7, 4) -> state
                addField(0, 3, 0, 0, 1); moveMember(0, 0, 3) -> state; moveMember(0, 1, 3) -> 1
                draft({-1..9}, 0, 0, 0); addMethod(0, 4, 0, 0, 1); moveMember(0, 2, 4) -> state
                moveMember(0, 2, 3) -> state; removeMember(0, 6); moveMember(0, 2, 3) -> 1
                // Another signature, a field's name for a method, and a method's name for a field are free.
                draft(-1, 2, 1, 1); addMethod(0, 4, 0, 3, 0); addField(0, 4, 0, 3, 0); moveMember(0, 2, 4) -> 1
                addMethod(0, 4, 0, 3, 0); moveMember(0, 0, 4) -> 1
                """);
    }

    private static void members() {
        EDGE.promise(14, "Returns the number of members of a version.");
        EDGE.runs("""
                members({0 1}) -> 8
                addField(0, 3, 0, 3, 0); members(0) -> 9; members(1) -> 8; undo(); members(0) -> 8
                """);
        EDGE.runs(FULL, "members(0) -> 40; members(1) -> 8");
        EDGE.runs(Edge.repeat(8, "removeMember(0, 0)"), "members(0) -> 0; members(1) -> 8");

        EDGE.promise(14, "Throws IndexOutOfBoundsException if there is no such version");
        EDGE.runs("members({outside 0 1}) -> index");
    }

    private static void memberInfo() {
        EDGE.promise(15, "7 the number of its parameters (NONE for a field), 8 and 9 the types of its first and second "
                + "parameter");
        EDGE.runs("""
                memberInfo({0 1}, {0 1 }, {7 8 9}) -> NONE
                memberInfo({0 1}, {2 4 5 6}, 7) -> 0
                memberInfo({0 1}, {2 4 5 6}, {8 9}) -> NONE
                memberInfo({0 1}, {3 7}, 7) -> 1; memberInfo({0 1}, {3 7}, 9) -> NONE; memberInfo(0, 3, 8) -> 1; \
                    memberInfo(0, 7, 8) -> 3
                """);

        EDGE.promise(15, "Returns the property; NONE if there is none.");
        EDGE.runs("""
                memberInfo({0 1}, {0 2 3 4 5 6 7}, 2) -> NONE
                memberInfo({0 1}, 1, 2) -> 7
                """);

        EDGE.promise(15, "Throws IndexOutOfBoundsException if there is no such version or member");
        EDGE.runs("""
                memberInfo({outside 0 1}, 0, {0 9}) -> index
                memberInfo({0 1}, {outside 0 7}, {0 9}) -> index
                """);
        EDGE.runs(Edge.repeat(8, "removeMember(0, 0)"), "memberInfo(0, 0, {0..9}) -> index");
        EDGE.runs(FULL, "memberInfo(0, 40, {0..9}) -> index");

        EDGE.promise(15, "Throws IllegalArgumentException if what is not 0 to 9");
        EDGE.runs("memberInfo({0 1}, {0 4}, {outside 0 9}) -> argument");
    }
}
