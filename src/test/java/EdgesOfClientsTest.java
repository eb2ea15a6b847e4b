/** The boundary cases of CLIENTS and of the promises 20 to 24, sentence by sentence. */
public final class EdgesOfClientsTest {
    private static final Edge EDGE = new Edge("EdgesOfClientsTest");

    private static final String ELEVEN = Edge.repeat(8, "addClient(3, 1, 0, 0)");
    private static final String TWELVE = ELEVEN + "addClient(3, 1, 0, 0) -> 11;";
    private static final String NOBODY = Edge.repeat(3, "removeClient(0)");

    public static void main(String[] args) {
        twelveClients();
        numbers();
        openClasses();
        openMembers();
        addClient();
        addClientRefused();
        setBase();
        setBaseRefused();
        removeClient();
        clients();
        clientInfo();
        clientInfoRefused();
        EDGE.end();
    }

    private static void twelveClients() {
        EDGE.term("There are at most 12 clients");
        EDGE.runs(ELEVEN, """
                clients() -> 11; addClient(3, 1, 0, 0) -> 11; clients() -> 12; addClient(3, 1, 0, 0) -> state; \
                    clients() -> 12
                """);
        EDGE.runs(TWELVE, """
                addClient(0, 1, 0, {0..3}) -> state; addClient({3 4}, 1, 0, {0..3}) -> state
                removeClient({0 5 11}) -> 11; addClient(3, 3, 0, 3) -> 11; clientInfo(11, 1) -> 3; \
                    addClient(3, 3, 0, 3) -> state
                undo() -> 4; clients() -> 11; addClient(3, 3, 0, 3) -> 11
                // Calls that add no client go on.
                setBase(11, 1) -> 0; clientInfo(11, 4) -> 1; compile(11, 1) -> 0; link(11, 1) -> 0; \
                    target(11, 1) -> NONE; verdict(11) -> 0; count(0) -> 12; clientInfo(12, 0) -> index
                """);
    }

    private static void numbers() {
        EDGE.term("numbered from 0; when one is removed, the numbers of those behind it decrease by 1");
        EDGE.runs("""
                removeClient(0) -> 2; clientInfo(0, 1) -> 3; clientInfo(0, 2) -> 2; clientInfo(1, 1) -> 4; \
                    clientInfo(2, 1) -> index; addClient(3, 1, 0, 0) -> 2
                removeClient(1) -> 2; clientInfo(0, 2) -> 1; clientInfo(0, 7) -> 7; clientInfo(1, 1) -> 4; \
                    clientInfo(2, 1) -> index
                removeClient(2) -> 2; clientInfo(0, 2) -> 1; clientInfo(1, 2) -> 2; clientInfo(2, 1) -> index
                // All that a client has goes with its number: base, package, arguments and symbol.
                draft(-1, 1, 3, 0); addClient(2, 4, 1, 3) -> 3; setBase(3, 4); removeClient(0); \
                    clientInfo(2, 0) -> 2; clientInfo(2, 3) -> 3; clientInfo(2, 4) -> 4; clientInfo(2, 5) -> 1; \
                    clientInfo(2, 8) -> INT; compile(2, 0) -> 0; link(2, 0) -> 0; target(2, 0) -> 4
                """);
    }

    private static void openClasses() {
        EDGE.term("A class is open to a client if it is public or in the package of the client.");
        EDGE.runs("""
                addClient(3, 3, 0, {0..3}) -> 3
                setClass(0, 3, 0, 0); addClient(3, 3, 0, 0) -> 3; addClient(3, 3, 0, {1 2 3}) -> argument
                setClass(0, 3, 0, 0); setClass(0, 3, 3, {0..3}); addClient(3, 3, 0, {0..3}) -> 3
                setClass(0, 3, 0, 0); setClass(0, 3, 3, 3); addClient(3, 3, 0, {0 1 2}) -> argument
                setClass(0, 3, 3, 3); addClient(3, 3, 0, {0 1 2}) -> 3
                """);
    }

    private static void openMembers() {
        EDGE.term("A member is open to a client if it is public; or if it is not private and its class is in the "
                + "package of the client; or if it is protected and its class is a supertype of the base of the "
                + "client, which exists in the version.");
        EDGE.runs("""
                addClient({0 1}, 3, 0, {0..3}) -> 3
                setMember(0, 0, 0, {1 2}); addClient({0 1}, 3, 0, 0) -> 3; addClient({0 1}, 3, 0, {1 2 3}) -> argument
                setMember(0, 0, 0, 0); addClient({0 1}, 3, 0, {0..3}) -> argument
                // The package of the member's own class counts, not that of the class of the use.
                setMember(0, 0, 0, 1); setClass(0, 3, 3, 2); addClient(0, 3, 0, 2) -> argument; \
                    addClient(0, 3, 0, 0) -> 3
                setMember(0, 0, 0, 1); setClass(0, 1, 3, 2); addClient(0, 3, 0, 2) -> 3; \
                    addClient(0, 3, 0, 0) -> argument
                """);
        EDGE.runs("addClient(0, 3, 0, 2) -> 3; setBase(3, {1 3 4});", """
                // Protected, for each base that is the class or below it; package access is not for subclasses.
                setMember({0 1}, 0, 0, 2); compile(3, {0 1}) -> 0; link(3, {0 1}) -> 0
                setMember({0 1}, 0, 0, {1 0}); compile(3, {0 1}) -> 5; link(3, {0 1}) -> 2
                """);
        EDGE.runs("addClient(0, 3, 0, 2) -> 3;", """
                // Base 0 is below nothing.
                setMember({0 1}, 0, 0, 2); compile(3, {0 1}) -> 5; link(3, {0 1}) -> 2
                setMember(1, 0, 0, 2); setBase(3, 4); compile(3, 1) -> 0; removeClass(1, 4); compile(3, 1) -> 5; \
                    link(3, 1) -> 2; compile(3, 0) -> 0
                setMember(1, 0, 0, 2); setBase(3, 4); setClass(1, 4, 4, 0); compile(3, 1) -> 5; link(3, 1) -> 2
                """);
    }

    private static void addClient() {
        EDGE.promise(20, "Adds a client with base 0. For a call, the argument types are the parameters of the draft.");
        EDGE.runs("""
                addClient(3, 1, 0, {0..3}) -> 3; clientInfo(3, 4) -> 0; clientInfo(3, 3) -> {0..3}
                setBase(0, 4); addClient(3, 1, 0, 0) -> 3; clientInfo(3, 4) -> 0; clientInfo(0, 4) -> 4
                draft(9, 0, 0, 0); addClient(2, 1, 0, 0) -> 3; clientInfo(3, 5) -> 0
                draft(9, 1, 1, 0); addClient(2, 1, 1, 0) -> 3; clientInfo(3, 5) -> 1; draft(9, 2, 9, 9); \
                    compile(3, 0) -> 0
                draft(9, 1, {-1 0 2 4}, 0); addClient(2, 3, 1, 3) -> argument
                draft(-1, 2, 1, 9); addMethod(0, 1, 5, 3, 0); draft(8, 2, 4, 9); addClient(2, 3, 5, 3) -> 3; \
                    clientInfo(3, 5) -> 2; draft(8, 2, 4, 8); addClient(2, 3, 5, 3) -> argument
                // The draft is of no matter to the other uses.
                draft(9, 2, 9, 9); addClient(0, 1, 0, 0) -> 3; addClient(1, 1, 0, 0) -> 4; \
                    addClient(3, 1, 0, 0) -> 5; addClient(4, 1, 0, 0) -> 6; clientInfo({3..6}, 5) -> NONE
                """);

        EDGE.promise(20, "name: the name, 0 to 7 (without effect for the uses 3 to 5)");
        EDGE.runs("setMember(0, 4, 1, 0);", """
                addClient({3 4}, 1, {0..7}, 0) -> 3; clientInfo(3, 2) -> NONE
                addClient({3 4}, 1, {outside 0 7}, 0) -> 3; clientInfo(3, 2) -> NONE
                addClient(5, 2, {outside 0 7}, 0) -> 3; clientInfo(3, 2) -> NONE
                """);

        EDGE.promise(20, "Returns the number of the client.");
        EDGE.runs(NOBODY, "addClient(3, 1, 0, 0) -> 0; addClient(3, 1, 0, 0) -> 1; clientInfo(0, 0) -> 3");
        EDGE.runs(ELEVEN, "addClient(3, 1, 0, 0) -> 11");
    }

    private static void addClientRefused() {
        EDGE.promise(20, "Throws IllegalArgumentException if use, c, itsPackage or, for the uses 0 to 2, name is out "
                + "of range, or compiling it with version 0 gives an error");
        EDGE.runs("""
                addClient({outside 0 5}, {1 3}, 0, 0) -> argument
                setMember(0, 4, 1, 0); addClient({outside 0 5}, 2, 0, 0) -> argument; addClient(5, 2, 0, 0) -> 3
                addClient({0..5}, {outside 0 9}, 0, 0) -> argument
                addClient({0..5}, {5..9}, 0, 0) -> argument
                addClient({0..5}, {1 2}, 0, {outside 0 3}) -> argument
                addClient({0 1 2}, 1, {outside 0 7}, 0) -> argument
                addClient({0 1 2}, 1, 0, 0) -> 3; addClient({0 1 2}, 1, 7, 0) -> argument
                addClient(1, 1, 1, 0) -> argument
                addClient(3, {2 4}, 0, 0) -> argument; addClient(3, {0 1 3}, 0, 0) -> 3
                addClient(4, 2, 0, 0) -> argument; addClient(4, {0 1 3 4}, 0, 0) -> 3
                addClient(5, {0..4}, 0, 0) -> argument
                removeClass(0, 4); addClient(0, 4, 0, 0) -> argument
                // Only version 0 is asked.
                removeClass(1, 4); addClient(0, 4, 0, 0) -> 3; define(1, 9, false, 0, 0); \
                    addClient(3, 9, 0, 0) -> argument
                """);

        EDGE.promise(20, "Throws IllegalStateException if there are 12 clients");
        EDGE.runs(TWELVE, "addClient({0 1 2 3 4}, 1, 0, 0) -> state");
        EDGE.runs(TWELVE, "removeClient(0); addClient(3, 1, 0, 0) -> 11");
    }

    private static void setBase() {
        EDGE.promise(21, "Gives a client another base, and compiles it with version 0 anew.");
        EDGE.runs("""
                setBase({0 1 2}, {1 3 4}); clientInfo({0 1 2}, 4) -> {1 3 4}
                setBase(1, 4); clientInfo({0 2}, 4) -> 0
                setMember(0, 1, 2, {-99 99}); clientInfo(0, 7) -> 7; setBase(0, {0 1}); clientInfo(0, 7) -> {-99 99}
                setMember(0, 1, 2, NONE); setBase(0, 0); clientInfo(0, 6) -> 0; clientInfo(0, 7) -> NONE; \
                    clientInfo(0, 8) -> INT; clientInfo(0, 9) -> 1
                setMember(0, 6, 1, 1); draft(-1, 0, 0, 0); addClient(2, 3, 0, 0); setMember(0, 6, 1, 0); \
                    clientInfo(3, 9) -> 1; setBase(3, 0); clientInfo(3, 9) -> 0
                """);

        EDGE.promise(21, "Returns the previous base.");
        EDGE.runs("""
                setBase(0, 1) -> 0; setBase(0, 1) -> 1; setBase(0, 4) -> 1; setBase(0, 0) -> 4; setBase(0, 0) -> 0; \
                    setBase(2, 3) -> 0
                """);
    }

    private static void setBaseRefused() {
        EDGE.promise(21, "Throws IndexOutOfBoundsException if there is no such client");
        EDGE.runs("setBase({outside 0 2}, {0 1}) -> index");
        EDGE.runs(NOBODY, "setBase(0, 0) -> index");
        EDGE.runs(TWELVE, "setBase(12, 0) -> index; setBase(11, 0) -> 0");

        EDGE.promise(21, "Throws IllegalArgumentException if base is no existing plain class of version 0 that is not "
                + "final and open to the client, or compiling it with version 0 gives an error then");
        EDGE.runs("""
                setBase({0 1 2}, {outside 0 9}) -> argument
                setBase(0, {2 5 6 7 8 9}) -> argument
                define(1, 5, false, 0, 0); setClass(1, 5, 0, 1); setBase(0, 5) -> argument
                define(0, 5, false, 0, 0); setBase(0, 5) -> argument; setClass(0, 5, 3, 2); setBase(0, 5) -> 0
                define(0, 5, false, 0, 0); setClass(0, 5, 0, 1); setBase(0, 5) -> 0
                setClass(0, 4, 1, 1); setBase(0, 4) -> argument; setClass(0, 4, 1, 0); setBase(0, 4) -> 0
                // A final class of version 1 alone, or one that is gone there, is still a base.
                setClass(1, 4, 1, 1); setBase(0, 4) -> 0
                removeClass(1, 4); setBase(0, 4) -> 0
                // An abstract class may be a base.
                setBase(0, 4) -> 0; classInfo(0, 4, 2) -> 1
                removeMember(0, 1); setBase(0, {0 1}) -> argument; clientInfo(0, 4) -> 0; clientInfo(0, 7) -> 7
                """);
        EDGE.runs("setMember(0, 4, 1, 0); addClient(5, 2, 0, 2) -> 3; setBase(3, 3) -> 0;", """
                // What the base brings decides whether it compiles.
                setMember(0, 4, 1, 4); compile(3, 0) -> 0; setBase(3, {0 1 4}) -> argument; setBase(3, 3) -> 3
                """);
    }

    private static void removeClient() {
        EDGE.promise(22, "Returns the number of clients then.");
        EDGE.runs("""
                removeClient(0) -> 2; removeClient(0) -> 1; removeClient(0) -> 0; clients() -> 0
                removeClient(2) -> 2; removeClient(1) -> 1; removeClient(0) -> 0
                """);
        EDGE.runs(TWELVE, "removeClient({0 11}) -> 11");

        EDGE.promise(22, "Throws IndexOutOfBoundsException if there is no such client");
        EDGE.runs("removeClient({outside 0 2}) -> index");
        EDGE.runs(NOBODY, "removeClient({-1 0 1}) -> index");
        EDGE.runs(TWELVE, "removeClient(12) -> index");
    }

    private static void clients() {
        EDGE.promise(23, "Returns the number of clients.");
        EDGE.runs("""
                clients() -> 3; addClient(3, 1, 0, 0); clients() -> 4; undo(); clients() -> 3
                """);
        EDGE.runs(NOBODY, "clients() -> 0; undo() -> 2; clients() -> 1");
        EDGE.runs(TWELVE, "clients() -> 12");
    }

    private static void clientInfo() {
        EDGE.promise(24, "2 the name (NONE for the uses 3 to 5)");
        EDGE.runs("setMember(0, 4, 1, 0);", """
                addClient({0 1}, 3, 0, 0) -> 3; clientInfo(3, 2) -> 0
                draft(1, 0, 0, 0); addClient(2, 3, 2, 0) -> 3; clientInfo(3, 2) -> 2
                addClient({3 4}, 3, 5, 0) -> 3; clientInfo(3, 2) -> NONE
                addClient(5, 2, 5, 0) -> 3; clientInfo(3, 2) -> NONE
                """);

        EDGE.promise(24, "5 the number of arguments (NONE for other uses than 2)");
        EDGE.runs("setMember(0, 4, 1, 0);", """
                clientInfo(0, 5) -> NONE; clientInfo({1 2}, 5) -> 0
                addClient({0 1 3 4}, 1, 0, 0) -> 3; clientInfo(3, 5) -> NONE
                addClient(5, 2, 0, 0) -> 3; clientInfo(3, 5) -> NONE
                draft(-1, {0 1 2}, 1, 1); addMethod(0, 1, 5, 3, 0); addClient(2, 1, 5, 0) -> 3; \
                    clientInfo(3, 5) -> {0 1 2}
                """);

        EDGE.promise(24, "6 whether the symbol that is kept is a constant value (0 or 1), 7 the constant value");
        EDGE.runs("setMember(0, 4, 1, 0);", """
                clientInfo(0, 6) -> 1; clientInfo(0, 7) -> 7; clientInfo({1 2}, 6) -> 0; clientInfo({1 2}, 7) -> NONE
                setMember(0, 1, 2, {-99 -3 -1 0 99}); addClient(0, 1, 1, 0) -> 3; clientInfo(3, 6) -> 1; \
                    clientInfo(3, 7) -> {-99 -3 -1 0 99}; clientInfo(0, 7) -> 7
                addClient({0 1 3 4}, 1, 0, 0) -> 3; clientInfo(3, 6) -> 0; clientInfo(3, 7) -> NONE
                addClient(5, 2, 0, 0) -> 3; clientInfo(3, 6) -> 0; clientInfo(3, 7) -> NONE
                """);

        EDGE.promise(24, "Returns the property; NONE if there is none (for 8 and 9 also if it is a constant value).");
        EDGE.runs("setMember(0, 4, 1, 0);", """
                clientInfo(0, {8 9}) -> NONE; clientInfo(1, 8) -> 1; clientInfo(1, 9) -> 0; clientInfo(2, 8) -> INT
                addClient({3 4}, 1, 0, 0) -> 3; clientInfo(3, {8 9}) -> NONE
                addClient(5, 2, 0, 0) -> 3; clientInfo(3, {8 9}) -> NONE
                setMember(0, 1, 2, NONE); addClient(0, 1, 1, 0) -> 3; clientInfo(3, 8) -> INT; clientInfo(3, 9) -> 1
                draft({-1 0 9}, 0, 0, 0); addField(0, 1, 5, 3, {0 1}); addClient({0 1 }, 1, 5, 0) -> 3; \
                    clientInfo(3, 8) -> {-1 0 9}; clientInfo(3, 9) -> {0 1}
                draft({-1 0 9}, 0, 0, 0); addMethod(0, 1, 5, 3, {0 1}); addClient(2, 1, 5, 0) -> 3; \
                    clientInfo(3, 8) -> {-1 0 9}; clientInfo(3, 9) -> {0 1}
                """);
    }

    private static void clientInfoRefused() {
        EDGE.promise(24, "Throws IndexOutOfBoundsException if there is no such client");
        EDGE.runs("clientInfo({outside 0 2}, {0 9}) -> index");
        EDGE.runs(NOBODY, "clientInfo({-1 0}, {0..9}) -> index");
        EDGE.runs(TWELVE, "clientInfo(12, 0) -> index; clientInfo(11, 0) -> 3");

        EDGE.promise(24, "Throws IllegalArgumentException if what is not 0 to 9");
        EDGE.runs("clientInfo({0 1 2}, {outside 0 9}) -> argument");
    }
}
