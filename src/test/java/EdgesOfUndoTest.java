import java.math.BigInteger;
import java.util.ArrayList;
import java.util.List;

/** The boundary cases of UNDO and of the promises 31 and 32, sentence by sentence. */
public final class EdgesOfUndoTest {
    private static final Edge EDGE = new Edge("EdgesOfUndoTest");

    /** Each undoable method, with a call of it that ends normally on a new object. */
    private static final String[] UNDOABLE = calls(""
            + "define(0, 5, false, 1, 4); define(1, 9, true, 0, 0); removeClass(0, 3); removeClass(1, 4); "
            + "setClass(0, 3, 0, 0); setClass(1, 3, 1, 1); setClass(0, 3, 2, 1); setClass(1, 3, 3, 3); "
            + "setClass(0, 4, 4, 3); setClass(1, 3, 5, 0); copyVersion(); addField(0, 3, 0, 3, 0); "
            + "addField(1, 2, 0, 3, 3); addMethod(0, 4, 0, 3, 4); addMethod(1, 2, 0, 3, 0); removeMember(0, 0); "
            + "removeMember(1, 7); setMember(0, 0, 0, 0); setMember(1, 1, 1, 0); setMember(0, 1, 2, 99); "
            + "moveMember(0, 0, 3); moveMember(1, 1, 2); addClient(0, 3, 0, 0); addClient(3, 3, 0, 3); "
            + "setBase(0, 4); removeClient(0); removeClient(2)");

    /** Calls that end normally and leave everything as it was; they save a state too. */
    private static final String[] WITHOUT_A_CHANGE = calls(""
            + "setClass(0, 3, 0, 1); setClass(0, 3, 1, 0); setClass(0, 3, 2, 0); setClass(0, 3, 3, 0); "
            + "setClass(0, 3, 4, 1); setClass(0, 3, 5, 4); copyVersion(); setMember(0, 0, 0, 3); "
            + "setMember(0, 0, 1, 0); setMember(0, 1, 2, 7); setMember(0, 0, 2, NONE); setBase(0, 0)");

    /** Every call that only asks, and draft(), which is not undoable. */
    private static final String QUESTIONS = "exists(0, 3); classInfo(0, 3, 9); draft(-1, 0, 0, 0); members(0); "
            + "memberInfo(0, 0, 0); fits(0, 3, 1); field(0, 3, 0); method(0, 3, 0); selected(0, 2, 3); clients(); "
            + "clientInfo(0, 0); compile(0, 1); link(0, 1); target(0, 1); verdict(0); count(0); sample(1, 0, 0); "
            + "checksum(); ";

    /** A call of each undoable method for each exception that it has. */
    private static final String[] REFUSED = calls(""
            + "define(2, 5, false, 0, 0); define(0, 5, false, 9, 0); define(0, 4, false, 0, 0); "
            + "removeClass(0, 9); removeClass(0, 1); setClass(0, 9, 0, 0); setClass(0, 3, 6, 0); "
            + "setClass(0, 1, 1, 1); addField(0, 9, 0, 3, 0); addField(0, 3, 8, 3, 0); addField(0, 1, 0, 3, 0); "
            + "addMethod(0, 9, 0, 3, 0); addMethod(0, 3, 0, 3, 4); addMethod(0, 3, 0, 3, 0); removeMember(0, 8); "
            + "setMember(0, 8, 0, 0); setMember(0, 0, 0, 4); moveMember(0, 8, 3); moveMember(0, 4, 1); "
            + "moveMember(0, 0, 1); addClient(6, 0, 0, 0); addClient(3, 4, 0, 0); setBase(3, 0); setBase(0, 2); "
            + "removeClient(3)");

    public static void main(String[] args) {
        savedStates();
        fiveStates();
        undo();
        undoEmpty();
        checksumOfFirstState();
        checksumWraps();
        checksumParts();
        EDGE.end();
    }

    private static String[] calls(String text) {
        return text.split("; ");
    }

    private static String exception(String call) {
        return Edge.answer(new CompatibilityJudge(), call).replace("IndexOutOfBoundsException", "index")
                .replace("IllegalArgumentException", "argument").replace("IllegalStateException", "state");
    }

    private static String first(String call) {
        return Edge.answer(new CompatibilityJudge(), call);
    }

    private static void savedStates() {
        EDGE.term("Every method that is marked \"undoable\" saves both versions with all classes and members and the "
                + "clients, as they were before the call, when it ends normally.");
        String atFirst = "checksum() -> " + first("checksum()");
        for (String call : UNDOABLE) {
            EDGE.run(call + "; undo() -> 0; " + atFirst + "; undo() -> state");
        }
        for (String call : WITHOUT_A_CHANGE) {
            EDGE.run(call + "; undo() -> 0; " + atFirst + "; undo() -> state");
        }
        // Undone one by one, each call gives back what was there before it and nothing else.
        for (String one : UNDOABLE) {
            for (String other : UNDOABLE) {
                CompatibilityJudge x = new CompatibilityJudge();
                Edge.answer(x, one);
                String between = Edge.answer(x, "checksum()");
                if (!Edge.answer(x, other).endsWith("Exception")) {
                    EDGE.run(one + "; checksum() -> " + between + "; " + other + "; undo() -> 1; checksum() -> "
                            + between + "; undo() -> 0; " + atFirst);
                }
            }
        }
        EDGE.run(QUESTIONS + "undo() -> state; " + atFirst);
        EDGE.run("setMember(0, 1, 2, 50); " + QUESTIONS + "undo() -> 0; " + atFirst);
        for (String call : REFUSED) {
            EDGE.run(call + " -> " + exception(call) + "; undo() -> state");
            EDGE.run("removeClient(2); undo(); " + call + " -> " + exception(call) + "; undo() -> state; " + atFirst);
        }
        EDGE.runs("""
                // The draft is not saved: an undo leaves it as it is.
                draft(5, 2, 6, 7); addField(0, 3, 5, 3, 0); draft(8, 1, 9, 0); undo() -> 0; \
                    addMethod(0, 3, 5, 3, 0) -> 8; memberInfo(0, 8, 6) -> 8; memberInfo(0, 8, 7) -> 1; \
                    memberInfo(0, 8, 8) -> 9; draft(0, 0, 0, 0) -> 1
                // The symbols that are kept are saved with the clients.
                setMember(0, 1, 2, 50); setBase(0, 0); clientInfo(0, 7) -> 50; undo() -> 1; clientInfo(0, 7) -> 7; \
                    undo() -> 0; memberInfo(0, 1, 2) -> 7
                // What is changed behind an undo does not change what is still saved.
                setMember(0, 1, 2, 50); setMember(0, 1, 2, 51); undo() -> 1; setMember(0, 1, 2, 52); undo() -> 1; \
                    memberInfo(0, 1, 2) -> 50; undo() -> 0; memberInfo(0, 1, 2) -> 7
                """);
    }

    private static void fiveStates() {
        EDGE.term("The latest 5 saved states are kept.");
        StringBuilder calls = new StringBuilder();
        for (int n = 1; n <= 12; n++) {
            calls.append("setMember(0, 1, 2, " + (10 + n) + ");");
            StringBuilder undone = new StringBuilder();
            int kept = Math.min(n, 5);
            for (int left = kept - 1; left >= 0; left--) {
                int value = n - kept + left == 0 ? 7 : 10 + n - kept + left;
                undone.append("undo() -> " + left + "; memberInfo(0, 1, 2) -> " + value + ";");
            }
            EDGE.run(calls + undone.toString() + "undo() -> state; undo() -> state");
        }
        EDGE.runs("""
                // The oldest one goes, also behind undos and more calls.
                setMember(0, 1, 2, 1); setMember(0, 1, 2, 2); setMember(0, 1, 2, 3); setMember(0, 1, 2, 4); \
                    setMember(0, 1, 2, 5); setMember(0, 1, 2, 6); undo() -> 4; undo() -> 3; setMember(0, 1, 2, 8); \
                    setMember(0, 1, 2, 9); setMember(0, 1, 2, 10); undo() -> 4; memberInfo(0, 1, 2) -> 9; \
                    undo() -> 3; memberInfo(0, 1, 2) -> 8; undo() -> 2; memberInfo(0, 1, 2) -> 4; undo() -> 1; \
                    memberInfo(0, 1, 2) -> 3; undo() -> 0; memberInfo(0, 1, 2) -> 2; undo() -> state; \
                    memberInfo(0, 1, 2) -> 2
                // A refused call takes none of the five away.
                copyVersion(); copyVersion(); copyVersion(); copyVersion(); copyVersion(); \
                    removeClass(0, 0) -> state; setBase(3, 0) -> index; addClient(3, 4, 0, 0) -> argument; undo() -> 4
                """);
    }

    private static void undo() {
        EDGE.promise(31, "Restores the state that was saved last; it is not saved any more then.");
        EDGE.runs("""
                removeClass(0, 3); removeClass(0, 4); undo() -> 1; exists(0, 4) -> true; exists(0, 3) -> false; \
                    undo() -> 0; exists(0, 3) -> true
                // An undo is not undoable itself.
                removeClass(0, 3); undo() -> 0; undo() -> state; exists(0, 3) -> true
                // The supertypes come back with the classes, and the methods are found again.
                setClass(0, 3, 4, 0); method(0, 3, 0) -> 6; field(0, 3, 0) -> NONE; undo(); field(0, 3, 0) -> 0; \
                    classInfo(0, 3, 8) -> 15
                // The number of members and of clients comes back, up and down.
                addField(0, 3, 0, 3, 0); removeMember(0, 0); undo(); members(0) -> 9; undo(); members(0) -> 8; \
                    memberInfo(0, 8, 0) -> index
                addClient(3, 1, 0, 0); removeClient(0); undo(); clients() -> 4; undo(); clients() -> 3; \
                    clientInfo(3, 0) -> index
                """);

        EDGE.promise(31, "Returns how many states are still saved.");
        EDGE.run("copyVersion(); undo() -> 0");
        EDGE.run(Edge.repeat(4, "copyVersion()") + "undo() -> 3; undo() -> 2; undo() -> 1; undo() -> 0; "
                + "undo() -> state");
        EDGE.run(Edge.repeat(5, "copyVersion()") + "undo() -> 4; undo() -> 3; undo() -> 2; undo() -> 1; undo() -> 0; "
                + "undo() -> state");
        EDGE.run(Edge.repeat(6, "copyVersion()") + "undo() -> 4; undo() -> 3; undo() -> 2; undo() -> 1; undo() -> 0; "
                + "undo() -> state");
        EDGE.run(Edge.repeat(300, "copyVersion()") + "undo() -> 4; undo() -> 3; undo() -> 2; undo() -> 1; undo() -> 0; "
                + "undo() -> state");
    }

    private static void undoEmpty() {
        EDGE.promise(31, "Throws IllegalStateException if none is saved");
        EDGE.runs("""
                undo() -> state; undo() -> state
                copyVersion(); undo(); undo() -> state; copyVersion(); undo() -> 0
                draft(1, 1, 1, 1); undo() -> state; draft(0, 0, 0, 0) -> 1
                """);
    }

    private static void checksumOfFirstState() {
        EDGE.promise(32, "Computes a checksum. It starts with h = 17317, and for each of the following numbers v, in "
                + "order, h becomes 31 * h + v");
        EDGE.runs("checksum() -> -6015417857791309854; checksum() -> -6015417857791309854");
        same("");
        same("draft(9, 2, 9, 9); addMethod(0, 1, 5, 3, 0); addMethod(1, 2, 5, 3, 4); copyVersion();");
        same("removeClass(0, 3); removeClass(0, 4); removeClass(1, 4); " + Edge.repeat(3, "removeClient(0)"));
        same("define(0, 9, true, 0, 4); setClass(1, 4, 4, 3); removeMember(1, 5); setMember(1, 1, 2, -99); "
                + "addClient(4, 3, 0, 1); setBase(0, 1); setBase(2, 3);");
        same(Edge.repeat(8, "removeMember(0, 0)") + Edge.repeat(8, "removeMember(1, 0)"));
        same(Edge.repeat(9, "addClient(3, 1, 0, 0)") + "setClass(1, 1, 2, 1);");
        StringBuilder full = new StringBuilder("draft(-1, 2, 9, 9);");
        for (int k = 0; k < 32; k++) {
            full.append("addMethod(0, " + (1 + k / 8) + ", " + k % 8 + ", 3, 0);");
        }
        same(full + "copyVersion();");
        for (String call : UNDOABLE) {
            same(call + ";");
        }
    }

    private static void checksumWraps() {
        EDGE.promise(32, "(long arithmetic that wraps)");
        BigInteger whole = BigInteger.valueOf(17317);
        for (int v : numbers("")) {
            whole = whole.multiply(BigInteger.valueOf(31)).add(BigInteger.valueOf(v));
        }
        if (whole.bitLength() <= 64) {
            throw new Error("the sum of the first state does not wrap");
        }
        EDGE.run("checksum() -> " + whole.longValue());
    }

    private static void checksumParts() {
        EDGE.promise(32, "the result type and the number of parameters of the draft; how many states are saved");
        for (int result = -1; result <= 9; result++) {
            for (int many = 0; many <= 2; many++) {
                same("draft(" + result + ", " + many + ", 3, 3);");
            }
        }
        String one = Edge.answer(replay("draft(-1, 2, 4, 5);"), "checksum()");
        EDGE.runs("draft(-1, 2, {-1 0 9}, {-1 0 9 }); checksum() -> " + one);
        for (int n = 0; n <= 7; n++) {
            same(Edge.repeat(n, "copyVersion()"));
            same(Edge.repeat(n, "copyVersion()") + (n > 0 ? "undo();" : ""));
        }

        EDGE.promise(32, "for each class from 0 to 9, -3 if it does not exist, otherwise the results of classInfo() "
                + "for 0 to 9");
        same("removeClass({0 1}, 4);");
        same("define({0 1}, 9, true, 0, 4);");
        same("define({0 1}, 9, false, 3, 0);");
    }

    /** Compares the checksum behind some calls with the one that the answers of all the other calls give. */
    private static void same(String calls) {
        if (calls.contains("{0 1}")) {
            same(calls.replace("{0 1}", "0"));
            same(calls.replace("{0 1}", "1"));
            return;
        }
        long h = 17317;
        for (int v : numbers(calls)) {
            h = 31 * h + v;
        }
        EDGE.run(calls + "checksum() -> " + h);
    }

    private static CompatibilityJudge replay(String calls) {
        CompatibilityJudge x = new CompatibilityJudge();
        for (String call : calls.split(";")) {
            if (!call.isBlank()) {
                Edge.answer(x, call.trim());
            }
        }
        return x;
    }

    /** Each question is asked of an object of its own, so that none has more calls than the document speaks of. */
    private static int ask(String calls, String question) {
        return Integer.parseInt(Edge.answer(replay(calls), question));
    }

    private static List<Integer> numbers(String calls) {
        List<Integer> numbers = new ArrayList<>();
        for (int version = 0; version <= 1; version++) {
            for (int c = 0; c <= 9; c++) {
                if (!replay(calls).exists(version, c)) {
                    numbers.add(-3);
                    continue;
                }
                askAll(numbers, calls, "classInfo(" + version + ", " + c + ", ");
            }
            int members = ask(calls, "members(" + version + ")");
            numbers.add(members);
            for (int m = 0; m < members; m++) {
                askAll(numbers, calls, "memberInfo(" + version + ", " + m + ", ");
            }
        }
        int clients = ask(calls, "clients()");
        numbers.add(clients);
        for (int k = 0; k < clients; k++) {
            askAll(numbers, calls, "clientInfo(" + k + ", ");
            for (String call : new String[] {"compile", "link", "target"}) {
                numbers.add(ask(calls, call + "(" + k + ", 0)"));
                numbers.add(ask(calls, call + "(" + k + ", 1)"));
            }
            numbers.add(ask(calls, "verdict(" + k + ")"));
        }
        numbers.add(draftResult(calls));
        numbers.add(ask(calls, "draft(-1, 0, 0, 0)"));
        numbers.add(statesSaved(calls));
        return numbers;
    }

    private static void askAll(List<Integer> numbers, String calls, String question) {
        for (int what = 0; what <= 9; what++) {
            numbers.add(ask(calls, question + what + ")"));
        }
    }

    /** The type of a field that is added shows it. */
    private static int draftResult(String calls) {
        CompatibilityJudge x = replay(calls);
        if (x.members(0) == 40) {
            x.removeMember(0, 39);
        }
        for (int name = 0; name <= 7; name++) {
            String m = Edge.answer(x, "addField(0, 1, " + name + ", 3, 0)");
            if (!m.endsWith("Exception")) {
                return x.memberInfo(0, Integer.parseInt(m), 6);
            }
        }
        throw new Error("no field shows the draft");
    }

    private static int statesSaved(String calls) {
        String left = Edge.answer(replay(calls), "undo()");
        return left.endsWith("Exception") ? 0 : Integer.parseInt(left) + 1;
    }
}
