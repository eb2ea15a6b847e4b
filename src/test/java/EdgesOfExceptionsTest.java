/** The sentences of EXCEPTIONS: what a refused call leaves, and which exception is thrown where several apply. */
public final class EdgesOfExceptionsTest {
    private static final Edge EDGE = new Edge("EdgesOfExceptionsTest");

    private static final String FULL = full();
    private static final String TWELVE = Edge.repeat(9, "addClient(3, 1, 0, 0)");

    /** Every kind of thing is there, five states are saved, and the draft is not the first one. */
    private static final String RICH = "define(0, 5, true, 0, 4); define(0, 9, false, 3, 32); addClient(4, 3, 0, 1); "
            + "setBase(0, 4); setMember(0, 1, 2, -99); setMember(1, 1, 2, 99); removeMember(1, 6); draft(5, 2, 6, 7); ";

    public static void main(String[] args) {
        changesNothing();
        firstListedOfClasses();
        firstListedOfMembers();
        firstListedOfSearching();
        firstListedOfClients();
        noneOnlyWithoutException();
        EDGE.end();
    }

    private static String full() {
        StringBuilder calls = new StringBuilder("draft(-1, 2, 9, 9);");
        for (int k = 0; k < 32; k++) {
            calls.append("addMethod(0, " + (1 + k / 8) + ", " + k % 8 + ", 3, 0);");
        }
        return calls.toString();
    }

    private static void changesNothing() {
        EDGE.term("A call that throws an exception changes nothing.");
        EDGE.runs(RICH, """
                define(2, 6, false, 0, 0) -> index; define(0, 10, false, 0, 0) -> index; \
                    define(0, 6, false, 2, 0) -> argument; define(0, 6, true, 0, 64) -> argument; \
                    define(0, 9, false, 0, 0) -> state
                removeClass(2, 3) -> index; removeClass(0, 8) -> index; removeClass(0, 0) -> state; \
                    removeClass(0, 1) -> state; removeClass(0, 2) -> state; removeClass(0, 5) -> state
                setClass(0, 8, 0, 0) -> index; setClass(0, 9, 6, 0) -> argument; setClass(0, 9, 0, 2) -> argument; \
                    setClass(0, 9, 4, 9) -> argument; setClass(0, 9, 5, 1) -> argument; \
                    setClass(0, 0, 0, 0) -> state; setClass(0, 2, 1, 1) -> state; setClass(0, 2, 2, 0) -> state; \
                    setClass(0, 2, 4, 1) -> state; setClass(0, 1, 1, 1) -> state
                exists(0, 10) -> index; classInfo(0, 8, 0) -> index; classInfo(0, 9, 10) -> argument
                draft(10, 1, 1, 1) -> argument; draft(1, 3, 1, 1) -> argument; draft(1, 1, 10, 1) -> argument; \
                    draft(1, 2, 1, 10) -> argument
                addField(0, 8, 5, 3, 0) -> index; addField(0, 9, 8, 3, 0) -> argument; \
                    addField(0, 5, 5, 3, 0) -> argument; addField(0, 0, 5, 3, 0) -> state; \
                    addField(0, 1, 0, 3, 0) -> state
                addMethod(0, 8, 5, 3, 0) -> index; addMethod(0, 9, 8, 3, 0) -> argument; \
                    addMethod(0, 9, 5, 3, 4) -> argument; addMethod(0, 0, 5, 3, 0) -> state
                removeMember(0, 8) -> index; removeMember(1, 7) -> index; setMember(0, 8, 0, 0) -> index; \
                    setMember(0, 1, 3, 0) -> argument; setMember(0, 1, 2, 100) -> argument; \
                    setMember(0, 1, 1, 4) -> argument; setMember(0, 1, 0, 4) -> argument
                moveMember(0, 8, 3) -> index; moveMember(0, 0, 8) -> index; moveMember(0, 0, 2) -> argument; \
                    moveMember(0, 0, 0) -> state; moveMember(0, 0, 1) -> state; moveMember(0, 2, 3) -> state
                members(2) -> index; memberInfo(0, 8, 0) -> index; memberInfo(0, 0, 10) -> argument
                fits(2, 0, 0) -> index; fits(0, 10, 0) -> argument; field(0, 8, 0) -> index; \
                    field(0, 9, 8) -> argument; method(0, 8, 0) -> index; method(0, 9, 8) -> argument; \
                    selected(0, 8, 3) -> index; selected(0, 0, 3) -> argument
                addClient(6, 1, 0, 0) -> argument; addClient(0, 1, 5, 0) -> argument; \
                    addClient(2, 3, 0, 0) -> argument; addClient(5, 2, 0, 0) -> argument
                setBase(4, 0) -> index; setBase(0, 2) -> argument; setBase(0, 9) -> argument; \
                    removeClient(4) -> index; clientInfo(4, 0) -> index; clientInfo(0, 10) -> argument
                compile(4, 0) -> index; compile(0, 2) -> index; link(4, 0) -> index; target(4, 0) -> index; \
                    verdict(4) -> index; count(6) -> argument; sample(0, 0, 0) -> argument; sample(1, 4, 0) -> argument
                undo(); undo(); undo(); undo(); undo(); undo() -> state
                """);
        EDGE.runs(FULL, """
                addField(0, 1, 5, 3, 0) -> state; draft(-1, 1, 9, 9); addMethod(0, 1, 5, 3, 0) -> state
                """);
        EDGE.runs(TWELVE, """
                addClient(3, 1, 0, 0) -> state; addClient(0, 3, 1, 2) -> state
                """);
        EDGE.runs("""
                // A client that is not added, or not changed, leaves no trace in what a later one is.
                addClient(3, 4, 0, 3) -> argument; addClient(0, 1, 0, 0) -> 3; clientInfo(3, 0) -> 0; \
                    clientInfo(3, 3) -> 0; clientInfo(3, 5) -> NONE
                removeMember(0, 1); setBase(0, 4) -> argument; clientInfo(0, 4) -> 0; clientInfo(0, 7) -> 7; \
                    setBase(1, 3) -> 0; clientInfo(1, 0) -> 2; clientInfo(1, 2) -> 2
                """);
    }

    private static void firstListedOfClasses() {
        EDGE.term("If several exceptions of a method apply, the one that is listed first is thrown.");
        EDGE.runs("""
                // define: the version or c before the superclass and the interfaces, these before what exists.
                define({outside 0 1}, 5, false, 9, 0) -> index; define({outside 0 1}, 5, true, 0, 1) -> index
                define({outside 0 1}, {0 3 10}, false, 0, 0) -> index
                define(0, {outside 1 9}, false, 9, 0) -> index; define(0, {outside 1 9}, true, 0, 1) -> index
                define(0, {1..4}, false, {-1 2 9}, 0) -> argument; \
                    define(0, {1..4}, {false true}, 0, {-1 1 2 16}) -> argument
                define(0, 4, false, 4, 0) -> argument; define(0, 2, true, 0, 4) -> argument
                // removeClass: the version before class 0, or a class with subclasses.
                removeClass({outside 0 1}, {0 1 2}) -> index
                // setClass: the version or class before all, then what and value, then the rest.
                setClass({outside 0 1}, 3, 6, 0) -> index; setClass({outside 0 1}, 0, 0, 0) -> index
                setClass(0, {5..9}, {outside 0 5}, 0) -> index; setClass(0, {5..9}, 0, 2) -> index
                setClass(0, 0, {outside 0 5}, 0) -> argument
                setClass(0, 0, {0 1 2}, {outside 0 1}) -> argument
                setClass(0, 0, 3, {outside 0 3}) -> argument
                setClass(0, 0, 4, {NONE INT 0 1 2 3 4 9}) -> argument
                setClass(0, 0, 5, {-1 1 2 4}) -> argument
                setClass(0, 2, {1 2}, {outside 0 1}) -> argument
                setClass(0, 1, 1, {outside 0 1}) -> argument
                addMethod(0, 4, 5, 3, 4); setClass(0, 4, 2, {outside 0 1}) -> argument
                // classInfo: the version or class before what.
                classInfo({outside 0 1}, 0, {outside 0 9}) -> index
                classInfo(0, {5..9}, {outside 0 9}) -> index
                """);
    }

    private static void firstListedOfMembers() {
        EDGE.runs("""
                // addField, addMethod: the version or class, then the numbers, then class 0 and what is taken.
                {addField addMethod}({outside 0 1}, 0, 5, 3, 0) -> index
                {addField addMethod}({outside 0 1}, 1, {outside 0 7}, 3, 0) -> index
                {addField addMethod}(0, {5..9}, 8, 4, 8) -> index
                {addField addMethod}(0, 0, {outside 0 7}, 3, 0) -> argument
                {addField addMethod}(0, 0, 5, {outside 0 3}, 0) -> argument
                addField(0, 0, 5, 3, {outside 0 3}) -> argument
                addMethod(0, 0, 5, 3, {outside 0 7}) -> argument
                addMethod(0, 0, 5, {0..3}, {4..7}) -> argument
                addField(0, 1, 0, {outside 0 3}, 0) -> argument
                addField(0, 1, 0, 3, {outside 0 3}) -> argument
                addMethod(0, 1, 0, {outside 0 3}, 0) -> argument
                addMethod(0, 1, 0, 3, {4..7}) -> argument
                addField(0, 2, 5, 3, 3); addField(0, 2, 5, {0 1 2}, 3) -> argument; \
                    addField(0, 2, 5, 3, {0 1 2}) -> argument
                draft(1, 0, 0, 0); addMethod(0, 2, 2, {0 1 2}, 4) -> argument; \
                    addMethod(0, 2, 2, 3, {2 3 5 6 7}) -> argument
                // setMember, memberInfo: the version or member before what and value.
                setMember({outside 0 1}, 0, {outside 0 2}, 0) -> index
                setMember(0, {outside 0 7}, {outside 0 2}, 0) -> index
                setMember(0, {outside 0 7}, 0, 4) -> index
                memberInfo({outside 0 1}, 0, {outside 0 9}) -> index
                memberInfo(0, {outside 0 7}, {outside 0 9}) -> index
                // moveMember: version, member, class, then what the class can't have, then class 0 and what is taken.
                moveMember({outside 0 1}, 4, {0 1 2}) -> index
                moveMember(0, {outside 0 7}, {0 1 2}) -> index
                moveMember(0, 4, {outside 0 4}) -> index
                moveMember(0, 4, 0) -> argument
                addMethod(0, 4, 5, 3, 4); draft(-1, 0, 0, 0); addMethod(0, 1, 5, 3, 0); moveMember(0, 8, 1) -> argument
                draft(-1, 1, 1, 0); addMethod(0, 2, 1, 3, 0); moveMember(0, 3, 2) -> argument
                addField(0, 2, 0, 3, 3); moveMember(0, 0, 2) -> argument
                addMethod(0, 2, 0, 3, 0); setMember(0, 2, 1, 2); moveMember(0, 2, 2) -> argument
                """);
        EDGE.runs(FULL, """
                // A version with 40 members.
                addField(2, 1, 5, 3, 0) -> index; addField(0, 9, 5, 3, 0) -> index; \
                    addField(0, 1, 8, 3, 0) -> argument; addField(0, 1, 5, 4, 0) -> argument; \
                    addField(0, 1, 5, 3, 4) -> argument; addField(0, 2, 5, 3, 0) -> argument
                addMethod(2, 1, 5, 3, 0) -> index; addMethod(0, 9, 5, 3, 0) -> index; \
                    addMethod(0, 1, 8, 3, 0) -> argument; addMethod(0, 1, 5, 4, 0) -> argument; \
                    addMethod(0, 1, 5, 3, 8) -> argument; addMethod(0, 1, 5, 3, 4) -> argument; \
                    addMethod(0, 2, 5, 3, 2) -> argument
                """);
    }

    private static void firstListedOfSearching() {
        EDGE.runs("""
                fits({outside 0 1}, {outside -1 9}, 0) -> index
                fits({outside 0 1}, 0, {outside -1 9}) -> index
                {field method}({outside 0 1}, 1, {outside 0 7}) -> index
                {field method}(0, {5..9}, {outside 0 7}) -> index
                // A field, and a class that is not there; a static method, an interface, a class that is no supertype.
                selected({outside 0 1}, {0 1 4}, 2) -> index
                selected(0, {outside 0 7}, {0 2}) -> index
                selected(0, {0 1}, {5..9}) -> index
                selected(0, 7, {5..9}) -> index
                setMember(0, 2, 1, 1); selected(0, 2, {5..9}) -> index
                """);
    }

    private static void firstListedOfClients() {
        EDGE.runs(TWELVE, """
                // addClient with 12 clients: what is out of range, or does not compile, comes first.
                addClient({outside 0 5}, 1, 0, 0) -> argument
                addClient({0..5}, {outside 0 9}, 0, 0) -> argument
                addClient({0..5}, 1, 0, {outside 0 3}) -> argument
                addClient({0 1 2}, 1, {outside 0 7}, 0) -> argument
                addClient({0..5}, {5..9}, 0, 0) -> argument
                addClient(3, {2 4}, 0, 0) -> argument; addClient(4, 2, 0, 0) -> argument; \
                    addClient(5, 2, 0, 0) -> argument
                addClient(3, {1 3}, 0, 0) -> state
                """);
        EDGE.runs("""
                setBase({outside 0 2}, {-1 2 5 10}) -> index
                clientInfo({outside 0 2}, {outside 0 9}) -> index
                compile({outside 0 2}, {outside 0 1}) -> index
                link({outside 0 2}, {outside 0 1}) -> index
                target({outside 0 2}, {outside 0 1}) -> index
                """);
    }

    private static void noneOnlyWithoutException() {
        EDGE.term("NONE is returned only if no exception applies.");
        EDGE.runs("""
                // Each call that could answer NONE, where an exception applies too.
                classInfo(2, 0, 4) -> index; classInfo(0, 5, 4) -> index; classInfo(0, 0, -2) -> argument; \
                    classInfo(0, 0, 4) -> NONE
                memberInfo(0, 8, {2 7 8 9}) -> index; memberInfo(0, 0, {-2 10}) -> argument; memberInfo(0, 0, 7) -> NONE
                setMember(0, 8, 2, NONE) -> index; setMember(0, 2, 2, NONE) -> argument; \
                    setMember(0, 0, 2, NONE) -> NONE
                field(0, {5..9}, 7) -> index; field(0, 1, {-2 8}) -> argument; field(0, 1, 7) -> NONE
                method(0, {5..9}, 7) -> index; method(0, 1, {-2 8}) -> argument; method(0, 1, 7) -> NONE
                removeMember(0, 5); selected(0, 4, {5..9}) -> index; selected(0, 4, {0 1 2 4}) -> argument; \
                    selected(0, 4, 3) -> NONE
                clientInfo(3, {5 7 8 9}) -> index; clientInfo(0, {-2 10}) -> argument; clientInfo(0, {5 8 9}) -> NONE
                target(3, 0) -> index; target(0, 2) -> index; target(0, 0) -> NONE
                sample({0 6}, 0, {2 3 4 5}) -> argument; sample(1, {-1 4}, {2 3 4 5}) -> argument; \
                    sample(1, 0, {-2 6}) -> argument; sample(1, 0, {0..5}) -> NONE
                """);
    }
}
