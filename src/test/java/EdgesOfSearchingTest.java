/** The boundary cases of SEARCHING and of the promises 16 to 19, sentence by sentence. */
public final class EdgesOfSearchingTest {
    private static final Edge EDGE = new Edge("EdgesOfSearchingTest");

    /** The interfaces 5 and 6 stand beside each other over interface 2, and class 7 below both. */
    private static final String DIAMOND = "define(0, 5, true, 0, 4); define(0, 6, true, 0, 4); "
            + "define(0, 7, false, 0, 96); draft(1, 0, 0, 0);";

    public static void main(String[] args) {
        fittingTypes();
        fits();
        fieldOfClass();
        field();
        interfaceMethod();
        methodOfClass();
        method();
        selectedMethod();
        selected();
        EDGE.end();
    }

    private static void fittingTypes() {
        EDGE.term("A type fits another one if both are the same, or both are classes that exist in the version, and "
                + "the second one is a supertype of the first one.");
        EDGE.runs("""
                fits({0 1}, {-1..9}, {-1..9}) -> true
                fits({0 1}, {0..9}, -1) -> false; fits({0 1}, -1, {0..9}) -> false
                fits({0 1}, {1 2 3 4}, 0) -> true; fits({0 1}, 0, {1 2 3 4}) -> false
                fits({0 1}, 3, {1 2}) -> true; fits({0 1}, {1 2}, 3) -> false; fits({0 1}, 4, {2 3}) -> false
                // A class that does not exist fits itself alone, not even class 0.
                fits({0 1}, {5..9}, {0..4}) -> false; fits({0 1}, {0..4}, {5..9}) -> false
                fits(0, 8, 9) -> false; fits(0, 9, 8) -> false
                removeClass(0, 3); fits(0, 3, {-1 0 1 2 4}) -> false; fits(0, 3, 3) -> true; fits(1, 3, {0 1 2}) -> true
                define(0, 9, false, 3, 0); fits(0, 9, {0 1 2 3 9}) -> true; fits(1, 9, {0 1 2 3}) -> false
                """);
    }

    private static void fits() {
        EDGE.promise(16, "Throws IndexOutOfBoundsException if there is no such version");
        EDGE.runs("fits({outside 0 1}, {-1 0 9}, 0) -> index");

        EDGE.promise(16, "Throws IllegalArgumentException if one of the types is out of range");
        EDGE.runs("""
                fits({0 1}, {outside -1 9}, {-1 0 9}) -> argument
                fits({0 1}, {-1 0 9}, {outside -1 9}) -> argument
                // Also where both are the same.
                fits({0 1}, {outside -1 9}, {outside -1 9}) -> argument
                fits(0, {-1 9}, {-1 9 })
                """);
    }

    private static void fieldOfClass() {
        EDGE.term("the field of the class itself with this name (and type); if there is none, the fields for its "
                + "direct superinterfaces are looked for in ascending order, and the first one that exists is taken; "
                + "otherwise the field for its superclass, if it has one");
        EDGE.runs("""
                field(0, 0, {0..7}) -> NONE
                field(0, 2, {0..7}) -> NONE
                field(0, {1 3 4}, 0) -> 0; field(0, {1 3 4}, 1) -> 1; field(0, {1 3 4}, {2..7}) -> NONE
                addField(0, 3, 0, 0, 0); field(0, 3, 0) -> 8; field(0, {1 4}, 0) -> 0
                // An interface before a superclass, and a superinterface's superinterface before it too.
                addField(0, 2, 0, 3, 3); field(0, 3, 0) -> 8; field(0, 4, 0) -> 0
                define(0, 5, true, 0, 4); define(0, 6, false, 1, 32); addField(0, 2, 0, 3, 3); field(0, 6, 0) -> 8; \
                    field(0, 5, 0) -> 8; addField(0, 5, 0, 3, 3); field(0, 6, 0) -> 9
                // An interface has no superclass but class 0.
                define(0, 5, true, 1, 0); field(0, 5, 0) -> NONE
                // Ascending order of the interfaces, not of the members.
                define(0, 5, true, 0, 0); define(0, 6, true, 0, 0); define(0, 7, false, 1, 96); \
                    addField(0, 6, 0, 3, 3) -> 8; field(0, 7, 0) -> 8; addField(0, 5, 0, 3, 3) -> 9; field(0, 7, 0) -> 9
                // What the smaller interface inherits comes before the greater interface's own field.
                define(0, 5, true, 0, 4); define(0, 6, true, 0, 0); define(0, 7, false, 1, 96); \
                    addField(0, 6, 0, 3, 3) -> 8; addField(0, 2, 0, 3, 3) -> 9; field(0, 7, 0) -> 9
                // A superclass's interface comes before the superclass's superclass, and behind the superclass.
                addField(0, 2, 0, 3, 3); define(0, 5, false, 3, 0); field(0, 5, 0) -> 8; addField(0, 3, 0, 3, 0); \
                    field(0, 5, 0) -> 9
                // A field of another type does not end the search.
                draft(5, 0, 0, 0); addField(0, 3, 0, 3, 0); field(0, 3, 0) -> 8; draft(-1, 0, 0, 0); \
                    field(0, 3, 0) -> 0; draft(6, 0, 0, 0); field(0, 3, 0) -> NONE
                // A method is no field.
                field(0, 3, 2) -> NONE; draft(1, 0, 0, 0); field(0, 3, 2) -> NONE
                """);
    }

    private static void field() {
        EDGE.promise(17, "Returns the number of the member; NONE if there is none.");
        EDGE.runs("""
                field({0 1}, 1, 0) -> 0; field({0 1}, 1, 1) -> 1; field({0 1}, 1, 7) -> NONE
                draft({0..9}, 0, 0, 0); field(0, 1, {0 1}) -> NONE
                draft(-1, 2, 9, 9); field(0, 1, 0) -> 0
                """);
        EDGE.runs(Edge.repeat(8, "removeMember(0, 0)"), "field(0, {0..4}, {0..7}) -> NONE");

        EDGE.promise(17, "Throws IndexOutOfBoundsException if there is no such version or class");
        EDGE.runs("""
                field({outside 0 1}, 1, 0) -> index
                field({0 1}, {5..9}, 0) -> index
                field({0 1}, {outside 0 9}, 0) -> index
                """);

        EDGE.promise(17, "Throws IllegalArgumentException if name is out of range");
        EDGE.runs("field({0 1}, {0 1 2 3}, {outside 0 7}) -> argument");
    }

    private static void interfaceMethod() {
        EDGE.term("the candidates are the methods with this name and descriptor, neither static nor private, of all "
                + "interfaces that are supertypes of the class, other than the class itself");
        EDGE.runs(DIAMOND, """
                method(0, {5 6 7}, 2) -> 4; method(0, {5 6 7}, 3) -> NONE
                setMember(0, 4, 1, 1); method(0, 2, 2) -> 4; method(0, {5 6 7}, 2) -> NONE
                setMember(0, 4, 1, 0); method(0, {2 5 6 7}, 2) -> 4
                draft({-1 0 2 9}, 0, 0, 0); method(0, {2 5 6 7}, 2) -> NONE
                draft(1, 1, {-1..9}, 0); method(0, {2 5 6 7}, 2) -> NONE
                // A class that is no supertype does not count.
                method(0, {0 1 4}, 2) -> NONE
                """);

        EDGE.term("A candidate is maximal if no other candidate belongs to a class that has the class of the first one "
                + "as a supertype.");
        EDGE.runs(DIAMOND, """
                addMethod(0, 5, 2, 3, {0 4}); method(0, 7, 2) -> 8; method(0, 6, 2) -> 4
                addMethod(0, 6, 2, 3, {0 4}); method(0, 7, 2) -> 8; method(0, 5, 2) -> 4
                // One that is not abstract but not maximal is not taken.
                setMember(0, 4, 1, 0); addMethod(0, 5, 2, 3, 4); method(0, 7, 2) -> 8; selected(0, 8, 7) -> NONE
                // Two that are maximal hide what is above one of them, in whatever order they were added.
                setClass(0, 6, 5, 0); setMember(0, 4, 1, 0); addMethod(0, 5, 2, 3, 4) -> 8; \
                    addMethod(0, 6, 2, 3, 4) -> 9; method(0, 7, 2) -> 8; selected(0, {4 8 9}, 7) -> NONE
                setClass(0, 6, 5, 0); setMember(0, 4, 1, 0); addMethod(0, 6, 2, 3, 4) -> 8; \
                    addMethod(0, 5, 2, 3, 4) -> 9; method(0, 7, 2) -> 9; selected(0, {4 8 9}, 7) -> NONE
                setClass(0, 5, 5, 0); setMember(0, 4, 1, 0); addMethod(0, 6, 2, 3, 4) -> 8; \
                    addMethod(0, 5, 2, 3, 4) -> 9; method(0, 7, 2) -> 9; selected(0, {4 8 9}, 7) -> NONE
                // A static one takes no other's place.
                addMethod(0, 5, 2, 3, 1); method(0, 7, 2) -> 4
                // Nor does one with another result.
                draft(5, 0, 0, 0); addMethod(0, 5, 2, 3, 4); draft(1, 0, 0, 0); method(0, 7, 2) -> 4
                """);

        EDGE.term("If exactly one maximal candidate is not abstract, it is taken; otherwise, if there are maximal "
                + "candidates, the one whose class has the lowest number.");
        EDGE.runs(DIAMOND, """
                addMethod(0, 6, 2, 3, 4) -> 8; addMethod(0, 5, 2, 3, 4) -> 9; method(0, 7, 2) -> 9
                addMethod(0, 6, 2, 3, 0) -> 8; addMethod(0, 5, 2, 3, 4) -> 9; method(0, 7, 2) -> 8
                addMethod(0, 6, 2, 3, 4) -> 8; addMethod(0, 5, 2, 3, 0) -> 9; method(0, 7, 2) -> 9
                addMethod(0, 6, 2, 3, 0) -> 8; addMethod(0, 5, 2, 3, 0) -> 9; method(0, 7, 2) -> 9
                method(0, 7, 5) -> NONE
                """);
        EDGE.runs("define(0, 5, true, 0, 0); define(0, 6, true, 0, 0); define(0, 7, true, 0, 0); "
                + "define(0, 8, false, 0, 224); addMethod(0, 7, 5, 3, 4) -> 8; addMethod(0, 6, 5, 3, 4) -> 9; "
                + "addMethod(0, 5, 5, 3, 4) -> 10;", """
                // Three of them, and one, two or three that are not abstract.
                method(0, 8, 5) -> 10
                setMember(0, {8 9 10}, 1, 0); method(0, 8, 5) -> {8 9 10}
                setMember(0, 8, 1, 0); setMember(0, 9, 1, 0); method(0, 8, 5) -> 10
                setMember(0, 9, 1, 0); setMember(0, 10, 1, 0); method(0, 8, 5) -> 10
                setMember(0, 8, 1, 0); setMember(0, 9, 1, 0); setMember(0, 10, 1, 0); method(0, 8, 5) -> 10
                """);
    }

    private static void methodOfClass() {
        EDGE.term("for a plain class, the method of the class itself with this name and descriptor, then that of its "
                + "superclass, and so on; the first one that exists is taken. For an interface, only the method of the "
                + "interface itself. If there is none, the interface method is taken, if there is one.");
        EDGE.runs("""
                method(0, 3, 0) -> 6; method(0, {1 4}, 0) -> 2; method(0, {0 2}, 0) -> NONE
                // Private and static methods are taken too.
                setMember(0, 6, 0, 0); method(0, 3, 0) -> 6; setMember(0, 6, 1, 1); method(0, 3, 0) -> 6
                draft(1, 0, 0, 0); setMember(0, 5, 0, 0); method(0, 3, 2) -> 5; removeMember(0, 5); method(0, 3, 2) -> 4
                // A superclass's method comes before an interface's.
                draft(1, 0, 0, 0); removeMember(0, 5); addMethod(0, 1, 2, 0, 1) -> 7; method(0, 3, 2) -> 7; \
                    method(0, 2, 2) -> 4
                // The nearest superclass counts, in whatever order the methods were added.
                define(0, 9, false, 3, 0); addMethod(0, 9, 5, 3, 0) -> 8; addMethod(0, 1, 5, 3, 0) -> 9; \
                    addMethod(0, 3, 5, 3, 0) -> 10; method(0, 9, 5) -> 8; method(0, 3, 5) -> 10; \
                    method(0, {1 4}, 5) -> 9; removeMember(0, 8); method(0, 9, 5) -> 9
                define(0, 9, false, 3, 0); addMethod(0, 3, 5, 3, 0) -> 8; addMethod(0, 1, 5, 3, 0) -> 9; \
                    method(0, {3 9}, 5) -> 8; method(0, {1 4}, 5) -> 9
                // The same name with another descriptor is passed over.
                draft({0..9}, 0, 0, 0); method(0, {1 3 4}, 0) -> NONE
                draft(-1, 1, 3, 0); method(0, 4, 1) -> 7; method(0, 3, 1) -> NONE; draft(-1, 1, 1, 0); \
                    method(0, {1 3 4}, 1) -> 3; draft(-1, 2, 1, 1); method(0, {1 3 4}, 1) -> NONE
                // An interface does not find the methods of plain classes above it, for there are none but class 0.
                define(0, 5, true, 3, 4); method(0, 5, 0) -> NONE
                """);
    }

    private static void method() {
        EDGE.promise(18, "Returns the number of the member; NONE if there is none.");
        EDGE.runs("""
                method({0 1}, 1, 0) -> 2; method({0 1}, 1, {1..7}) -> NONE
                """);
        EDGE.runs(Edge.repeat(8, "removeMember(0, 0)"), "method(0, {0..4}, {0..7}) -> NONE");
        EDGE.runs("removeMember(0, 0); removeMember(0, 0);", "method(0, 1, 0) -> 0; selected(0, 0, 1) -> 0");
        EDGE.runs(Edge.repeat(4, "removeMember(0, 0)") + "removeMember(0, 1); draft(1, 0, 0, 0);", """
                // An interface's method with the number 0.
                method(0, {2 3}, 2) -> 0; selected(0, 0, 3) -> NONE; classInfo(0, {2 3}, 9) -> 1; \
                    setMember(0, 0, 1, 0); method(0, {2 3}, 2) -> 0; selected(0, 0, 3) -> 0; classInfo(0, {2 3}, 9) -> 0
                """);

        EDGE.promise(18, "Throws IndexOutOfBoundsException if there is no such version or class");
        EDGE.runs("""
                method({outside 0 1}, 1, 0) -> index
                method({0 1}, {5..9}, 0) -> index
                method({0 1}, {outside 0 9}, 0) -> index
                """);

        EDGE.promise(18, "Throws IllegalArgumentException if name is out of range");
        EDGE.runs("method({0 1}, {0 1 2 3}, {outside 0 7}) -> argument");
    }

    private static void selectedMethod() {
        EDGE.term("The selected method for a method m and a plain class r: m itself if m is private.");
        EDGE.runs("""
                setMember(0, 2, 0, 0); selected(0, 2, {1 3 4}) -> 2
                setMember(0, 2, 0, {1 2}); selected(0, 2, {1 4}) -> 2; selected(0, 2, 3) -> 6
                """);

        EDGE.term("Otherwise the first method with the name and descriptor of m, neither static nor private, of r, its "
                + "superclass, and so on.");
        EDGE.runs("""
                selected(0, 2, 1) -> 2; selected(0, 2, 3) -> 6; selected(0, 6, 3) -> 6; selected(0, 4, 3) -> 5
                setMember(0, 6, 0, 0); selected(0, 2, 3) -> 2
                setMember(0, 6, 1, {1 3}); selected(0, 2, 3) -> 2
                setMember(0, 6, 1, 2); selected(0, 2, 3) -> 6
                setClass(0, 3, 2, 1); setMember(0, 6, 1, 4); selected(0, 2, 3) -> 6
                // The nearest superclass counts, in whatever order the methods were added.
                define(0, 9, false, 3, 0); addMethod(0, 9, 5, 3, 0) -> 8; addMethod(0, 1, 5, 3, 0) -> 9; \
                    addMethod(0, 3, 5, 3, 0) -> 10; selected(0, {8 9 10}, 9) -> 8; selected(0, {9 10}, 3) -> 10; \
                    setMember(0, 8, 0, 0); selected(0, {9 10}, 9) -> 10; setMember(0, 10, 1, 1); selected(0, 9, 9) -> 9
                // Another result is another descriptor.
                removeMember(0, 6); draft(0, 0, 0, 0); addMethod(0, 3, 0, 3, 0); selected(0, 2, 3) -> 2
                define(0, 9, false, 3, 0); selected(0, 2, 9) -> 6; addMethod(0, 9, 0, 1, 0); selected(0, 2, 9) -> 8; \
                    setMember(0, 8, 0, 0); selected(0, 2, 9) -> 6
                // A method of a class may be selected for an interface's method that is not below it.
                define(0, 9, false, 3, 4); selected(0, 4, 9) -> 5
                """);

        EDGE.term("If there is none, the only maximal candidate (as above, for r) that is not abstract; if there is "
                + "none or more than one, no method is selected.");
        EDGE.runs("""
                removeMember(0, 5); selected(0, 4, 3) -> NONE; setMember(0, 4, 1, 0); selected(0, 4, 3) -> 4
                setMember(0, 5, 0, 0); selected(0, 4, 3) -> NONE; setMember(0, 4, 1, 0); selected(0, 4, 3) -> 4
                // An interface that is no supertype has no candidate.
                define(0, 5, true, 0, 4); removeMember(0, 5); draft(1, 0, 0, 0); addMethod(0, 5, 2, 3, 0) -> 7; \
                    selected(0, 4, 3) -> NONE; classInfo(0, 3, 9) -> 1; setMember(0, 4, 1, 0); selected(0, 4, 3) -> 4
                define(0, 5, true, 0, 4); draft(1, 0, 0, 0); addMethod(0, 5, 2, 3, 0) -> 8; removeMember(0, 5); \
                    method(0, 3, 2) -> 4
                """);
        EDGE.runs(DIAMOND, """
                selected(0, 4, 7) -> NONE
                addMethod(0, 5, 2, 3, 0); selected(0, {4 8}, 7) -> 8
                addMethod(0, 5, 2, 3, 0); addMethod(0, 6, 2, 3, 4); selected(0, {4 8 9}, 7) -> 8
                addMethod(0, 5, 2, 3, 0); addMethod(0, 6, 2, 3, 0); selected(0, {4 8 9}, 7) -> NONE
                addMethod(0, 5, 2, 3, 4); addMethod(0, 6, 2, 3, 4); selected(0, {4 8 9}, 7) -> NONE
                // The default of interface 2 is not maximal where interface 5 makes it abstract again.
                setMember(0, 4, 1, 0); selected(0, 4, 7) -> 4; addMethod(0, 5, 2, 3, 4); selected(0, {4 8}, 7) -> NONE
                """);
    }

    private static void selected() {
        EDGE.promise(19, "Returns the number of the member; NONE if no method is selected.");
        EDGE.runs("""
                selected({0 1}, 2, {1 4}) -> 2; selected({0 1}, 5, 3) -> 5; removeMember({0 1}, 5); \
                    selected({0 1}, 4, 3) -> NONE
                """);

        EDGE.promise(19, "Throws IndexOutOfBoundsException if there is no such version, member or class");
        EDGE.runs("""
                selected({outside 0 1}, 2, 1) -> index
                selected({0 1}, {outside 0 7}, 1) -> index
                selected({0 1}, {0 2}, {5..9}) -> index
                selected({0 1}, {0 2}, {outside 0 9}) -> index
                """);

        EDGE.promise(19, "Throws IllegalArgumentException if the member is a field or static, or c is an interface, or "
                + "the class of the member is no supertype of c");
        EDGE.runs("""
                selected({0 1}, {0 1 }, {1 3 4}) -> argument
                setMember(0, 2, 1, {1 3}); selected(0, 2, {1 3 4}) -> argument
                setMember(0, 2, 0, 0); setMember(0, 2, 1, 1); selected(0, 2, 1) -> argument
                selected({0 1}, {2..7}, 2) -> argument
                selected({0 1}, {2..7}, 0) -> argument
                selected({0 1}, {4 5 6}, {1 4}) -> argument
                selected({0 1}, 7, {1 3}) -> argument
                setMember(0, 4, 1, 0); selected(0, 4, {1 2 4}) -> argument; selected(0, 4, 3) -> 5
                // A private method asks for the same.
                setMember(0, 6, 0, 0); selected(0, 6, {0 1 2 4}) -> argument; selected(0, 6, 3) -> 6
                """);
    }
}
