/** Promises 31 and 32: undo and the checksum. What the checksum is made of is asked in EdgesOfUndoTest. */
public final class UndoChecksumTest {
    private static final Due DUE = new Due("UndoChecksumTest");

    public static void main(String[] args) {
        undoOfEachMethod();
        fiveStates();
        undoRestoresAll();
        questionsSaveNothing();
        checksum();
        DUE.end();
    }

    private static void undone(CompatibilityJudge x, String call, Due.Call it) {
        long before = x.checksum();
        it.answer();
        DUE.is(call + " saves a state", x.undo(), 0);
        DUE.is("undo of " + call, x.checksum(), before);
        DUE.state(x, "undo behind the undo of " + call, x::undo);
    }

    private static void undoOfEachMethod() {
        CompatibilityJudge x = new CompatibilityJudge();
        undone(x, "define", () -> x.define(1, 5, false, 1, 4));
        undone(x, "removeClass", () -> x.removeClass(0, 3));
        for (int what = 0; what <= 5; what++) {
            int w = what;
            undone(x, "setClass " + w, () -> x.setClass(1, 4, w, w == 5 ? 4 : w == 3 ? 3 : w == 4 ? 3 : 0));
        }
        undone(x, "copyVersion", x::copyVersion);
        undone(x, "addField", () -> x.addField(0, 4, 0, 3, 0));
        undone(x, "addMethod", () -> x.addMethod(1, 4, 0, 3, 0));
        undone(x, "removeMember", () -> x.removeMember(1, 1));
        undone(x, "setMember 0", () -> x.setMember(0, 0, 0, 0));
        undone(x, "setMember 1", () -> x.setMember(0, 1, 1, 0));
        undone(x, "setMember 2", () -> x.setMember(0, 1, 2, 0));
        undone(x, "setMember without a change", () -> x.setMember(0, 1, 2, 7));
        undone(x, "moveMember", () -> x.moveMember(1, 0, 4));
        undone(x, "addClient", () -> x.addClient(3, 1, 0, 0));
        undone(x, "setBase", () -> x.setBase(1, 4));
        undone(x, "setBase without a change", () -> x.setBase(1, 0));
        undone(x, "removeClient", () -> x.removeClient(1));
    }

    /** The checksum without its last number, which is how many states are saved. */
    private static long sumOf(CompatibilityJudge x, int saved) {
        return x.checksum() - saved;
    }

    private static void fiveStates() {
        CompatibilityJudge x = new CompatibilityJudge();
        long[] sums = new long[9];
        for (int k = 0; k < 9; k++) {
            sums[k] = sumOf(x, Math.min(k, 5));
            x.setMember(0, 1, 2, 20 + k);
        }
        for (int left = 4; left >= 0; left--) {
            DUE.is("undo", x.undo(), left);
            DUE.is("the state", sumOf(x, left), sums[4 + left]);
        }
        DUE.is("the constant", x.memberInfo(0, 1, 2), 23);
        DUE.state(x, "undo, none saved", x::undo);
        x.setMember(0, 1, 2, 50);
        x.setMember(0, 1, 2, 51);
        DUE.is("undo", x.undo(), 1);
        x.setMember(0, 1, 2, 52);
        DUE.is("undo", x.undo(), 1);
        DUE.is("undo", x.undo(), 0);
        DUE.is("the constant", x.memberInfo(0, 1, 2), 23);
    }

    private static void undoRestoresAll() {
        CompatibilityJudge x = new CompatibilityJudge();
        x.draft(4, 2, 3, 1);
        long first = x.checksum();
        x.removeClient(1);
        x.copyVersion();
        x.removeClass(0, 3);
        x.removeClass(0, 4);
        x.removeMember(1, 0);
        for (int k = 0; k < 5; k++) {
            x.undo();
        }
        DUE.is("all as at first, but the draft", x.checksum(), first);
        // A state that comes back does not hang on what later calls change.
        x.setBase(1, 1);
        x.undo();
        x.setBase(1, 4);
        x.setBase(1, 3);
        x.undo();
        DUE.is("base", x.clientInfo(1, 4), 4);
        x.undo();
        DUE.is("base", x.clientInfo(1, 4), 0);
    }

    private static void questionsSaveNothing() {
        CompatibilityJudge x = new CompatibilityJudge();
        long before = x.checksum();
        x.exists(0, 1);
        x.classInfo(0, 1, 9);
        x.draft(-1, 0, 0, 0);
        x.members(0);
        x.memberInfo(0, 1, 1);
        x.fits(0, 1, 1);
        x.field(0, 1, 1);
        x.method(0, 1, 1);
        x.selected(0, 2, 1);
        x.clients();
        x.clientInfo(0, 0);
        x.compile(0, 1);
        x.link(0, 1);
        x.target(0, 1);
        x.verdict(0);
        x.count(0);
        x.sample(1, 0, 0);
        DUE.is("checksum", x.checksum(), before);
        DUE.state(x, "undo", x::undo);
    }

    private static void checksum() {
        CompatibilityJudge x = new CompatibilityJudge();
        DUE.is("checksum at first", x.checksum(), -6015417857791309854L);
        for (int k = 1; k <= 7; k++) {
            x.copyVersion();
            DUE.is("the states count at last", sumOf(x, Math.min(k, 5)), -6015417857791309854L);
        }
        x.draft(9, 2, 9, 9);
        DUE.is("the draft counts before", sumOf(x, 5), -6015417857791309854L + 31 * 31 * 10 + 31 * 2);
    }
}
